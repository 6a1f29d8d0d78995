theorem hd_X9_setLength : yX9_setLength.cls = RX9 ∧ yX9_setLength.cls ≠ "java/lang/invoke/MethodHandle" ∧ yX9_setLength.cls ≠ "java/lang/invoke/VarHandle" ∧ (parseMethodDescriptor yX9_setLength.desc).map (fun d => d.parameters.length) = some 3 := by decide +kernel
set_option maxHeartbeats 4000000 in
set_option maxRecDepth 100000 in
theorem mX9_setLength (l : Launch) (Ts : List Cond) (hTs : ∀ w, w ∈ Ts ↔ w ∈ uT) (D : va_G) (k : Nat → ClassId) (sz : Nat) (a_t : Nat) (a_t_population : Nat) (a_t_area : Nat) (a_t_community : Nat) (a_t_outer : Nat) (a_t_neighbors : Nat) (a_t_lengths : Nat) (a_t_plan : Nat) (t_lengths : Nat → Int32) (t_neighbors : Nat → Int32) (t_units : Int32) (v_t_cores : Value) (v_t_districts : Value) (v_t_hasPlan : Value) (v_t_tolerance : Value) (x1 : Int32) (x2 : Int32) (x3 : Int32) (r : Int32 × (Nat → Int32) × (Nat → Int32)) (h : fX9_setLength t_lengths t_neighbors t_units x1 x2 x3 = some r) : Met l yX9_setLength (Cond.code yX9_setLength cX9_setLength 4 (some .boolean) :: Ts) ({ frames := 1, cells := 0, slots := 0, locals := 22 } : Room) (preM D k [.ref a_t, .int x1, .int x2, .int x3] [(a_t, .inr (8, [.int t_units, .ref a_t_population, .ref a_t_area, .ref a_t_community, .ref a_t_outer, .ref a_t_neighbors, .ref a_t_lengths, v_t_cores, v_t_districts, v_t_tolerance, v_t_hasPlan, .ref a_t_plan])), (a_t_lengths, .inl (k 0, 144, .inl t_lengths)), (a_t_neighbors, .inl (k 0, 12, .inl t_neighbors))] sz) (postI D k r.1 [(a_t, .inr (8, [.int t_units, .ref a_t_population, .ref a_t_area, .ref a_t_community, .ref a_t_outer, .ref a_t_neighbors, .ref a_t_lengths, v_t_cores, v_t_districts, v_t_tolerance, v_t_hasPlan, .ref a_t_plan])), (a_t_lengths, .inl (k 0, 144, .inl t_lengths)), (a_t_neighbors, .inl (k 0, 12, .inl t_neighbors))] [(a_t, .inr (8, [.int t_units, .ref a_t_population, .ref a_t_area, .ref a_t_community, .ref a_t_outer, .ref a_t_neighbors, .ref a_t_lengths, v_t_cores, v_t_districts, v_t_tolerance, v_t_hasPlan, .ref a_t_plan])), (a_t_lengths, .inl (k 0, 144, .inl r.2.1)), (a_t_neighbors, .inl (k 0, 12, .inl r.2.2))] sz) 0 0 (va_A [(a_t, .inr (8, [.int t_units, .ref a_t_population, .ref a_t_area, .ref a_t_community, .ref a_t_outer, .ref a_t_neighbors, .ref a_t_lengths, v_t_cores, v_t_districts, v_t_tolerance, v_t_hasPlan, .ref a_t_plan])), (a_t_lengths, .inl (k 0, 144, .inl t_lengths)), (a_t_neighbors, .inl (k 0, 12, .inl t_neighbors))] sz) := by
  refine Met.ofW (cc := cX9_setLength) (maxL := 4) (ret := (some .boolean)) (by decide) rfl ?_
  intro p e s m args below meth c s₁ B hml hv
  obtain ⟨rfl, hsz, hP, hK, hD0⟩ := hv
  have hx := B.exec
  have hb := B.bytes
  have hr := B.returns
  have hts0 := atoms_spec (ws := (Cond.code yX9_setLength cX9_setLength 4 (some .boolean) :: Ts)) B.pre
  have hts : ∀ w ∈ uT, w.before _ s = true := fun w h => hts0 w (List.mem_cons_of_mem _ ((hTs w).mpr h))
  clear hts0
  have hown : s.vm.findClass RX9 = some m.cls := findClass_of_methodNamed B.named
  have hlocks := B.notSynchronized
  subst hsz
  have hD := hD0.self (sz := s.heap.size)
  generalize hAe : va_A [(a_t, .inr (8, [.int t_units, .ref a_t_population, .ref a_t_area, .ref a_t_community, .ref a_t_outer, .ref a_t_neighbors, .ref a_t_lengths, v_t_cores, v_t_districts, v_t_tolerance, v_t_hasPlan, .ref a_t_plan])), (a_t_lengths, .inl (k 0, 144, .inl t_lengths)), (a_t_neighbors, .inl (k 0, 12, .inl t_neighbors))] s.heap.size = A at hD ⊢
  have hA : ∀ q : Nat, s.heap.size ≤ q → A q := fun q h => by rw [← hAe]; exact Or.inr h
  have hH : HOK D A s.heap [(a_t, .inr (8, [.int t_units, .ref a_t_population, .ref a_t_area, .ref a_t_community, .ref a_t_outer, .ref a_t_neighbors, .ref a_t_lengths, v_t_cores, v_t_districts, v_t_tolerance, v_t_hasPlan, .ref a_t_plan])), (a_t_lengths, .inl (k 0, 144, .inl t_lengths)), (a_t_neighbors, .inl (k 0, 12, .inl t_neighbors))] s.heap [] := ⟨hP, hD, va_S.rf⟩
  have hl := lv_entry ([.ref a_t, .int x1, .int x2, .int x3]) (n := 4) (Nat.le_of_ble_eq_true rfl)
  rw [lg_entry_eq]
  generalize (lg_sl ([.ref a_t, .int x1, .int x2, .int x3]) ++ List.replicate (4 - (lg_sl ([.ref a_t, .int x1, .int x2, .int x3])).length) Slot.unset).toArray = ls at hl ⊢
  have hl : lv_has ls 4 [(0, .ref a_t), (1, .int x1), (2, .int x2), (3, .int x3)] := hl
  generalize hQ : MQ below (postI D k r.1 [(a_t, .inr (8, [.int t_units, .ref a_t_population, .ref a_t_area, .ref a_t_community, .ref a_t_outer, .ref a_t_neighbors, .ref a_t_lengths, v_t_cores, v_t_districts, v_t_tolerance, v_t_hasPlan, .ref a_t_plan])), (a_t_lengths, .inl (k 0, 144, .inl t_lengths)), (a_t_neighbors, .inl (k 0, 12, .inl t_neighbors))] [(a_t, .inr (8, [.int t_units, .ref a_t_population, .ref a_t_area, .ref a_t_community, .ref a_t_outer, .ref a_t_neighbors, .ref a_t_lengths, v_t_cores, v_t_districts, v_t_tolerance, v_t_hasPlan, .ref a_t_plan])), (a_t_lengths, .inl (k 0, 144, .inl r.2.1)), (a_t_neighbors, .inl (k 0, 12, .inl r.2.2))] s.heap.size) (List.toArray [.ref a_t, .int x1, .int x2, .int x3]) s 0 0 A = Q
  clear hP hD hD0
  suffices K : ∀ (H : Heap) (locs : List Loc), HOK D A s.heap [(a_t, .inr (8, [.int t_units, .ref a_t_population, .ref a_t_area, .ref a_t_community, .ref a_t_outer, .ref a_t_neighbors, .ref a_t_lengths, v_t_cores, v_t_districts, v_t_tolerance, v_t_hasPlan, .ref a_t_plan])), (a_t_lengths, .inl (k 0, 144, .inl t_lengths)), (a_t_neighbors, .inl (k 0, 12, .inl t_neighbors))] H locs → W p l e ({ frames := 1, cells := 0, slots := 0, locals := 22 } : Room) s m (List.toArray [.ref a_t, .int x1, .int x2, .int x3]) below meth c H locs 0 0 Q (F0 m 0 ls []) from K s.heap [] hH
  intro H locs hH
  rw [fX9_setLength] at h
  refine lv_iload_n hx hb dX9_setLength_0 rfl (lv_at hl 1 rfl) ?_
  refine lv_aload_n hx hb dX9_setLength_1 rfl (lv_at hl 0 rfl) ?_
  refine gk_get (ci := 8) (C := RX9) (T := TX9) (N := 12) hx hb hts u_ws_X9 hown hK hH 0 rfl rfl 0 (by decide) u_fl_X9_9 rfl dX9_setLength_2 ?_
  refine lv_icmp_ge (tgt := 21) hx hb dX9_setLength_5 (by decide) (fun c1 => ?_) (fun c1 => ?_)
  · replace h := dc_pos c1 h
    refine lv_iconst (v := 0) hx hb dX9_setLength_21 (by decide) ?_
    have h := Option.some.inj h
    subst h
    exact ge_z hx hb hr rfl hlocks hQ hK hH hAe rfl dX9_setLength_22
  · replace h := dc_neg c1 h
    refine lv_iload_n hx hb dX9_setLength_8 rfl (lv_at hl 2 rfl) ?_
    refine lv_aload_n hx hb dX9_setLength_9 rfl (lv_at hl 0 rfl) ?_
    refine gk_get (ci := 8) (C := RX9) (T := TX9) (N := 12) hx hb hts u_ws_X9 hown hK hH 0 rfl rfl 0 (by decide) u_fl_X9_9 rfl dX9_setLength_10 ?_
    refine lv_icmp_ge (tgt := 21) hx hb dX9_setLength_13 (by decide) (fun c2 => ?_) (fun c2 => ?_)
    · replace h := dc_pos c2 h
      refine lv_iconst (v := 0) hx hb dX9_setLength_21 (by decide) ?_
      have h := Option.some.inj h
      subst h
      exact ge_z hx hb hr rfl hlocks hQ hK hH hAe rfl dX9_setLength_22
    · replace h := dc_neg c2 h
      refine lv_iload_n hx hb dX9_setLength_16 rfl (lv_at hl 1 rfl) ?_
      refine lv_iload_n hx hb dX9_setLength_17 rfl (lv_at hl 2 rfl) ?_
      refine lv_icmp_ne (tgt := 23) hx hb dX9_setLength_18 (by decide) (fun c3 => ?_) (fun c3 => ?_)
      · replace h := dc_neg c3 h
        refine lv_iload_n hx hb dX9_setLength_23 rfl (lv_at hl 3 rfl) ?_
        refine lv_if_ne (tgt := 38) hx hb dX9_setLength_24 (by decide) (fun c4 => ?_) (fun c4 => ?_)
        · replace h := dc_neg c4 h
          refine lv_aload_n hx hb dX9_setLength_38 rfl (lv_at hl 0 rfl) ?_
          refine gk_get (ci := 8) (C := RX9) (T := TX9) (N := 12) hx hb hts u_ws_X9 hown hK hH 0 rfl rfl 6 (by decide) u_fl_X9_31 rfl dX9_setLength_39 ?_
          refine lv_iload_n hx hb dX9_setLength_42 rfl (lv_at hl 1 rfl) ?_
          refine lv_bipush (v := 12) hx hb dX9_setLength_43 (by decide) ?_
          refine lv_imul hx hb dX9_setLength_45 ?_
          refine lv_iload_n hx hb dX9_setLength_46 rfl (lv_at hl 2 rfl) ?_
          refine lv_iadd hx hb dX9_setLength_47 ?_
          refine lv_iload_n hx hb dX9_setLength_48 rfl (lv_at hl 3 rfl) ?_
          obtain ⟨g18, h⟩ := dc_need h
          refine gk_iast hx hb hK hH 1 rfl (dk_in g18) dX9_setLength_49 [(a_t, .inr (8, [.int t_units, .ref a_t_population, .ref a_t_area, .ref a_t_community, .ref a_t_outer, .ref a_t_neighbors, .ref a_t_lengths, v_t_cores, v_t_districts, v_t_tolerance, v_t_hasPlan, .ref a_t_plan])), (a_t_lengths, .inl (k 0, 144, .inl (upd t_lengths ((x1 * (12 : Int32)) + x2).toNatClampNeg x3))), (a_t_neighbors, .inl (k 0, 12, .inl t_neighbors))] rfl (fun H locs hH => ?_)
          refine lv_aload_n hx hb dX9_setLength_50 rfl (lv_at hl 0 rfl) ?_
          refine gk_get (ci := 8) (C := RX9) (T := TX9) (N := 12) hx hb hts u_ws_X9 hown hK hH 0 rfl rfl 6 (by decide) u_fl_X9_31 rfl dX9_setLength_51 ?_
          refine lv_iload_n hx hb dX9_setLength_54 rfl (lv_at hl 2 rfl) ?_
          refine lv_bipush (v := 12) hx hb dX9_setLength_55 (by decide) ?_
          refine lv_imul hx hb dX9_setLength_57 ?_
          refine lv_iload_n hx hb dX9_setLength_58 rfl (lv_at hl 1 rfl) ?_
          refine lv_iadd hx hb dX9_setLength_59 ?_
          refine lv_iload_n hx hb dX9_setLength_60 rfl (lv_at hl 3 rfl) ?_
          obtain ⟨g19, h⟩ := dc_need h
          refine gk_iast hx hb hK hH 1 rfl (dk_in g19) dX9_setLength_61 [(a_t, .inr (8, [.int t_units, .ref a_t_population, .ref a_t_area, .ref a_t_community, .ref a_t_outer, .ref a_t_neighbors, .ref a_t_lengths, v_t_cores, v_t_districts, v_t_tolerance, v_t_hasPlan, .ref a_t_plan])), (a_t_lengths, .inl (k 0, 144, .inl (upd (upd t_lengths ((x1 * (12 : Int32)) + x2).toNatClampNeg x3) ((x2 * (12 : Int32)) + x1).toNatClampNeg x3))), (a_t_neighbors, .inl (k 0, 12, .inl t_neighbors))] rfl (fun H locs hH => ?_)
          refine lv_aload_n hx hb dX9_setLength_62 rfl (lv_at hl 0 rfl) ?_
          refine gk_get (ci := 8) (C := RX9) (T := TX9) (N := 12) hx hb hts u_ws_X9 hown hK hH 0 rfl rfl 5 (by decide) u_fl_X9_28 rfl dX9_setLength_63 ?_
          refine lv_iload_n hx hb dX9_setLength_66 rfl (lv_at hl 1 rfl) ?_
          refine lv_dup2_11 hx hb dX9_setLength_67 rfl rfl ?_
          obtain ⟨g20, h⟩ := dc_need h
          refine gk_iald hx hb hK hH 2 rfl (dk_in g20) dX9_setLength_68 ?_
          refine lv_iconst (v := 1) hx hb dX9_setLength_69 (by decide) ?_
          refine lv_iload_n hx hb dX9_setLength_70 rfl (lv_at hl 2 rfl) ?_
          refine lv_ishl hx hb dX9_setLength_71 ?_
          refine lv_iconst (v := -1) hx hb dX9_setLength_72 (by decide) ?_
          refine lv_ixor hx hb dX9_setLength_73 ?_
          refine lv_iand hx hb dX9_setLength_74 ?_
          obtain ⟨g21, h⟩ := dc_need h
          refine gk_iast hx hb hK hH 2 rfl (dk_in g21) dX9_setLength_75 [(a_t, .inr (8, [.int t_units, .ref a_t_population, .ref a_t_area, .ref a_t_community, .ref a_t_outer, .ref a_t_neighbors, .ref a_t_lengths, v_t_cores, v_t_districts, v_t_tolerance, v_t_hasPlan, .ref a_t_plan])), (a_t_lengths, .inl (k 0, 144, .inl (upd (upd t_lengths ((x1 * (12 : Int32)) + x2).toNatClampNeg x3) ((x2 * (12 : Int32)) + x1).toNatClampNeg x3))), (a_t_neighbors, .inl (k 0, 12, .inl (upd t_neighbors x1.toNatClampNeg ((t_neighbors x1.toNatClampNeg) &&& (((1 : Int32) <<< (x2 &&& 31)) ^^^ (-1 : Int32))))))] rfl (fun H locs hH => ?_)
          refine lv_aload_n hx hb dX9_setLength_76 rfl (lv_at hl 0 rfl) ?_
          refine gk_get (ci := 8) (C := RX9) (T := TX9) (N := 12) hx hb hts u_ws_X9 hown hK hH 0 rfl rfl 5 (by decide) u_fl_X9_28 rfl dX9_setLength_77 ?_
          refine lv_iload_n hx hb dX9_setLength_80 rfl (lv_at hl 2 rfl) ?_
          refine lv_dup2_11 hx hb dX9_setLength_81 rfl rfl ?_
          obtain ⟨g22, h⟩ := dc_need h
          refine gk_iald hx hb hK hH 2 rfl (dk_in g22) dX9_setLength_82 ?_
          refine lv_iconst (v := 1) hx hb dX9_setLength_83 (by decide) ?_
          refine lv_iload_n hx hb dX9_setLength_84 rfl (lv_at hl 1 rfl) ?_
          refine lv_ishl hx hb dX9_setLength_85 ?_
          refine lv_iconst (v := -1) hx hb dX9_setLength_86 (by decide) ?_
          refine lv_ixor hx hb dX9_setLength_87 ?_
          refine lv_iand hx hb dX9_setLength_88 ?_
          obtain ⟨g23, h⟩ := dc_need h
          refine gk_iast hx hb hK hH 2 rfl (dk_in g23) dX9_setLength_89 [(a_t, .inr (8, [.int t_units, .ref a_t_population, .ref a_t_area, .ref a_t_community, .ref a_t_outer, .ref a_t_neighbors, .ref a_t_lengths, v_t_cores, v_t_districts, v_t_tolerance, v_t_hasPlan, .ref a_t_plan])), (a_t_lengths, .inl (k 0, 144, .inl (upd (upd t_lengths ((x1 * (12 : Int32)) + x2).toNatClampNeg x3) ((x2 * (12 : Int32)) + x1).toNatClampNeg x3))), (a_t_neighbors, .inl (k 0, 12, .inl (upd (upd t_neighbors x1.toNatClampNeg ((t_neighbors x1.toNatClampNeg) &&& (((1 : Int32) <<< (x2 &&& 31)) ^^^ (-1 : Int32)))) x2.toNatClampNeg (((upd t_neighbors x1.toNatClampNeg ((t_neighbors x1.toNatClampNeg) &&& (((1 : Int32) <<< (x2 &&& 31)) ^^^ (-1 : Int32)))) x2.toNatClampNeg) &&& (((1 : Int32) <<< (x1 &&& 31)) ^^^ (-1 : Int32))))))] rfl (fun H locs hH => ?_)
          refine lv_iload_n hx hb dX9_setLength_90 rfl (lv_at hl 3 rfl) ?_
          refine lv_if_le (tgt := 118) hx hb dX9_setLength_91 (by decide) (fun c24 => ?_) (fun c24 => ?_)
          · replace h := dc_pos c24 h
            refine lv_iconst (v := 1) hx hb dX9_setLength_118 (by decide) ?_
            have h := Option.some.inj h
            subst h
            exact ge_z hx hb hr rfl hlocks hQ hK hH hAe rfl dX9_setLength_119
          · replace h := dc_neg c24 h
            refine lv_aload_n hx hb dX9_setLength_94 rfl (lv_at hl 0 rfl) ?_
            refine gk_get (ci := 8) (C := RX9) (T := TX9) (N := 12) hx hb hts u_ws_X9 hown hK hH 0 rfl rfl 5 (by decide) u_fl_X9_28 rfl dX9_setLength_95 ?_
            refine lv_iload_n hx hb dX9_setLength_98 rfl (lv_at hl 1 rfl) ?_
            refine lv_dup2_11 hx hb dX9_setLength_99 rfl rfl ?_
            obtain ⟨g25, h⟩ := dc_need h
            refine gk_iald hx hb hK hH 2 rfl (dk_in g25) dX9_setLength_100 ?_
            refine lv_iconst (v := 1) hx hb dX9_setLength_101 (by decide) ?_
            refine lv_iload_n hx hb dX9_setLength_102 rfl (lv_at hl 2 rfl) ?_
            refine lv_ishl hx hb dX9_setLength_103 ?_
            refine lv_ior hx hb dX9_setLength_104 ?_
            obtain ⟨g26, h⟩ := dc_need h
            refine gk_iast hx hb hK hH 2 rfl (dk_in g26) dX9_setLength_105 [(a_t, .inr (8, [.int t_units, .ref a_t_population, .ref a_t_area, .ref a_t_community, .ref a_t_outer, .ref a_t_neighbors, .ref a_t_lengths, v_t_cores, v_t_districts, v_t_tolerance, v_t_hasPlan, .ref a_t_plan])), (a_t_lengths, .inl (k 0, 144, .inl (upd (upd t_lengths ((x1 * (12 : Int32)) + x2).toNatClampNeg x3) ((x2 * (12 : Int32)) + x1).toNatClampNeg x3))), (a_t_neighbors, .inl (k 0, 12, .inl (upd (upd (upd t_neighbors x1.toNatClampNeg ((t_neighbors x1.toNatClampNeg) &&& (((1 : Int32) <<< (x2 &&& 31)) ^^^ (-1 : Int32)))) x2.toNatClampNeg (((upd t_neighbors x1.toNatClampNeg ((t_neighbors x1.toNatClampNeg) &&& (((1 : Int32) <<< (x2 &&& 31)) ^^^ (-1 : Int32)))) x2.toNatClampNeg) &&& (((1 : Int32) <<< (x1 &&& 31)) ^^^ (-1 : Int32)))) x1.toNatClampNeg (((upd (upd t_neighbors x1.toNatClampNeg ((t_neighbors x1.toNatClampNeg) &&& (((1 : Int32) <<< (x2 &&& 31)) ^^^ (-1 : Int32)))) x2.toNatClampNeg (((upd t_neighbors x1.toNatClampNeg ((t_neighbors x1.toNatClampNeg) &&& (((1 : Int32) <<< (x2 &&& 31)) ^^^ (-1 : Int32)))) x2.toNatClampNeg) &&& (((1 : Int32) <<< (x1 &&& 31)) ^^^ (-1 : Int32)))) x1.toNatClampNeg) ||| ((1 : Int32) <<< (x2 &&& 31))))))] rfl (fun H locs hH => ?_)
            refine lv_aload_n hx hb dX9_setLength_106 rfl (lv_at hl 0 rfl) ?_
            refine gk_get (ci := 8) (C := RX9) (T := TX9) (N := 12) hx hb hts u_ws_X9 hown hK hH 0 rfl rfl 5 (by decide) u_fl_X9_28 rfl dX9_setLength_107 ?_
            refine lv_iload_n hx hb dX9_setLength_110 rfl (lv_at hl 2 rfl) ?_
            refine lv_dup2_11 hx hb dX9_setLength_111 rfl rfl ?_
            obtain ⟨g27, h⟩ := dc_need h
            refine gk_iald hx hb hK hH 2 rfl (dk_in g27) dX9_setLength_112 ?_
            refine lv_iconst (v := 1) hx hb dX9_setLength_113 (by decide) ?_
            refine lv_iload_n hx hb dX9_setLength_114 rfl (lv_at hl 1 rfl) ?_
            refine lv_ishl hx hb dX9_setLength_115 ?_
            refine lv_ior hx hb dX9_setLength_116 ?_
            obtain ⟨g28, h⟩ := dc_need h
            refine gk_iast hx hb hK hH 2 rfl (dk_in g28) dX9_setLength_117 [(a_t, .inr (8, [.int t_units, .ref a_t_population, .ref a_t_area, .ref a_t_community, .ref a_t_outer, .ref a_t_neighbors, .ref a_t_lengths, v_t_cores, v_t_districts, v_t_tolerance, v_t_hasPlan, .ref a_t_plan])), (a_t_lengths, .inl (k 0, 144, .inl (upd (upd t_lengths ((x1 * (12 : Int32)) + x2).toNatClampNeg x3) ((x2 * (12 : Int32)) + x1).toNatClampNeg x3))), (a_t_neighbors, .inl (k 0, 12, .inl (upd (upd (upd (upd t_neighbors x1.toNatClampNeg ((t_neighbors x1.toNatClampNeg) &&& (((1 : Int32) <<< (x2 &&& 31)) ^^^ (-1 : Int32)))) x2.toNatClampNeg (((upd t_neighbors x1.toNatClampNeg ((t_neighbors x1.toNatClampNeg) &&& (((1 : Int32) <<< (x2 &&& 31)) ^^^ (-1 : Int32)))) x2.toNatClampNeg) &&& (((1 : Int32) <<< (x1 &&& 31)) ^^^ (-1 : Int32)))) x1.toNatClampNeg (((upd (upd t_neighbors x1.toNatClampNeg ((t_neighbors x1.toNatClampNeg) &&& (((1 : Int32) <<< (x2 &&& 31)) ^^^ (-1 : Int32)))) x2.toNatClampNeg (((upd t_neighbors x1.toNatClampNeg ((t_neighbors x1.toNatClampNeg) &&& (((1 : Int32) <<< (x2 &&& 31)) ^^^ (-1 : Int32)))) x2.toNatClampNeg) &&& (((1 : Int32) <<< (x1 &&& 31)) ^^^ (-1 : Int32)))) x1.toNatClampNeg) ||| ((1 : Int32) <<< (x2 &&& 31)))) x2.toNatClampNeg (((upd (upd (upd t_neighbors x1.toNatClampNeg ((t_neighbors x1.toNatClampNeg) &&& (((1 : Int32) <<< (x2 &&& 31)) ^^^ (-1 : Int32)))) x2.toNatClampNeg (((upd t_neighbors x1.toNatClampNeg ((t_neighbors x1.toNatClampNeg) &&& (((1 : Int32) <<< (x2 &&& 31)) ^^^ (-1 : Int32)))) x2.toNatClampNeg) &&& (((1 : Int32) <<< (x1 &&& 31)) ^^^ (-1 : Int32)))) x1.toNatClampNeg (((upd (upd t_neighbors x1.toNatClampNeg ((t_neighbors x1.toNatClampNeg) &&& (((1 : Int32) <<< (x2 &&& 31)) ^^^ (-1 : Int32)))) x2.toNatClampNeg (((upd t_neighbors x1.toNatClampNeg ((t_neighbors x1.toNatClampNeg) &&& (((1 : Int32) <<< (x2 &&& 31)) ^^^ (-1 : Int32)))) x2.toNatClampNeg) &&& (((1 : Int32) <<< (x1 &&& 31)) ^^^ (-1 : Int32)))) x1.toNatClampNeg) ||| ((1 : Int32) <<< (x2 &&& 31)))) x2.toNatClampNeg) ||| ((1 : Int32) <<< (x1 &&& 31))))))] rfl (fun H locs hH => ?_)
            refine lv_iconst (v := 1) hx hb dX9_setLength_118 (by decide) ?_
            have h := Option.some.inj h
            subst h
            exact ge_z hx hb hr rfl hlocks hQ hK hH hAe rfl dX9_setLength_119
        · replace h := dc_pos c4 h
          refine lv_aload_n hx hb dX9_setLength_27 rfl (lv_at hl 0 rfl) ?_
          refine lv_iload_n hx hb dX9_setLength_28 rfl (lv_at hl 1 rfl) ?_
          refine lv_iload_n hx hb dX9_setLength_29 rfl (lv_at hl 2 rfl) ?_
          obtain ⟨q5, hqq5, h⟩ := dc_bind h
          refine gc_Vi (ws' := [(a_t, .inr (8, [.int t_units, .ref a_t_population, .ref a_t_area, .ref a_t_community, .ref a_t_outer, .ref a_t_neighbors, .ref a_t_lengths, v_t_cores, v_t_districts, v_t_tolerance, v_t_hasPlan, .ref a_t_plan])), (a_t_lengths, .inl (k 0, 144, .inl t_lengths)), (a_t_neighbors, .inl (k 0, 12, .inl t_neighbors))]) (As := [.int x1, .int x2]) (rest := []) (n := 2) (ci := 8) (cq := (RX9, TX9, 12)) hTs ⟨hx, hb, hml, hown, hts⟩ (mX9_lengthBetween l Ts hTs D k H.size a_t a_t_population a_t_area a_t_community a_t_outer a_t_neighbors a_t_lengths a_t_plan t_lengths v_t_cores v_t_districts v_t_hasPlan v_t_tolerance (.int t_units) x1 x2 q5 hqq5) u_ml_X9_73 u_im_X9_lengthBetween u_se_X9_lengthBetween u_in_X9 u_co_X9_lengthBetween hd_X9_lengthBetween ⟨Nat.le_of_ble_eq_true rfl, Nat.le_of_ble_eq_true rfl⟩ ⟨rfl, rfl⟩ hK hH hA (cut0 (isC := [0, 1]) rfl rfl rfl) rfl rfl rfl rfl hl.1 (Nat.le_of_ble_eq_true rfl) dX9_setLength_30 ⟨Nat.le_of_ble_eq_true rfl, Nat.le_of_ble_eq_true rfl⟩ (fun H locs hH => ?_)
          refine lv_if_ne (tgt := 38) hx hb dX9_setLength_33 (by decide) (fun c6 => ?_) (fun c6 => ?_)
          · replace h := dc_neg c6 h
            refine lv_aload_n hx hb dX9_setLength_38 rfl (lv_at hl 0 rfl) ?_
            refine gk_get (ci := 8) (C := RX9) (T := TX9) (N := 12) hx hb hts u_ws_X9 hown hK hH 0 rfl rfl 6 (by decide) u_fl_X9_31 rfl dX9_setLength_39 ?_
            refine lv_iload_n hx hb dX9_setLength_42 rfl (lv_at hl 1 rfl) ?_
            refine lv_bipush (v := 12) hx hb dX9_setLength_43 (by decide) ?_
            refine lv_imul hx hb dX9_setLength_45 ?_
            refine lv_iload_n hx hb dX9_setLength_46 rfl (lv_at hl 2 rfl) ?_
            refine lv_iadd hx hb dX9_setLength_47 ?_
            refine lv_iload_n hx hb dX9_setLength_48 rfl (lv_at hl 3 rfl) ?_
            obtain ⟨g7, h⟩ := dc_need h
            refine gk_iast hx hb hK hH 1 rfl (dk_in g7) dX9_setLength_49 [(a_t, .inr (8, [.int t_units, .ref a_t_population, .ref a_t_area, .ref a_t_community, .ref a_t_outer, .ref a_t_neighbors, .ref a_t_lengths, v_t_cores, v_t_districts, v_t_tolerance, v_t_hasPlan, .ref a_t_plan])), (a_t_lengths, .inl (k 0, 144, .inl (upd t_lengths ((x1 * (12 : Int32)) + x2).toNatClampNeg x3))), (a_t_neighbors, .inl (k 0, 12, .inl t_neighbors))] rfl (fun H locs hH => ?_)
            refine lv_aload_n hx hb dX9_setLength_50 rfl (lv_at hl 0 rfl) ?_
            refine gk_get (ci := 8) (C := RX9) (T := TX9) (N := 12) hx hb hts u_ws_X9 hown hK hH 0 rfl rfl 6 (by decide) u_fl_X9_31 rfl dX9_setLength_51 ?_
            refine lv_iload_n hx hb dX9_setLength_54 rfl (lv_at hl 2 rfl) ?_
            refine lv_bipush (v := 12) hx hb dX9_setLength_55 (by decide) ?_
            refine lv_imul hx hb dX9_setLength_57 ?_
            refine lv_iload_n hx hb dX9_setLength_58 rfl (lv_at hl 1 rfl) ?_
            refine lv_iadd hx hb dX9_setLength_59 ?_
            refine lv_iload_n hx hb dX9_setLength_60 rfl (lv_at hl 3 rfl) ?_
            obtain ⟨g8, h⟩ := dc_need h
            refine gk_iast hx hb hK hH 1 rfl (dk_in g8) dX9_setLength_61 [(a_t, .inr (8, [.int t_units, .ref a_t_population, .ref a_t_area, .ref a_t_community, .ref a_t_outer, .ref a_t_neighbors, .ref a_t_lengths, v_t_cores, v_t_districts, v_t_tolerance, v_t_hasPlan, .ref a_t_plan])), (a_t_lengths, .inl (k 0, 144, .inl (upd (upd t_lengths ((x1 * (12 : Int32)) + x2).toNatClampNeg x3) ((x2 * (12 : Int32)) + x1).toNatClampNeg x3))), (a_t_neighbors, .inl (k 0, 12, .inl t_neighbors))] rfl (fun H locs hH => ?_)
            refine lv_aload_n hx hb dX9_setLength_62 rfl (lv_at hl 0 rfl) ?_
            refine gk_get (ci := 8) (C := RX9) (T := TX9) (N := 12) hx hb hts u_ws_X9 hown hK hH 0 rfl rfl 5 (by decide) u_fl_X9_28 rfl dX9_setLength_63 ?_
            refine lv_iload_n hx hb dX9_setLength_66 rfl (lv_at hl 1 rfl) ?_
            refine lv_dup2_11 hx hb dX9_setLength_67 rfl rfl ?_
            obtain ⟨g9, h⟩ := dc_need h
            refine gk_iald hx hb hK hH 2 rfl (dk_in g9) dX9_setLength_68 ?_
            refine lv_iconst (v := 1) hx hb dX9_setLength_69 (by decide) ?_
            refine lv_iload_n hx hb dX9_setLength_70 rfl (lv_at hl 2 rfl) ?_
            refine lv_ishl hx hb dX9_setLength_71 ?_
            refine lv_iconst (v := -1) hx hb dX9_setLength_72 (by decide) ?_
            refine lv_ixor hx hb dX9_setLength_73 ?_
            refine lv_iand hx hb dX9_setLength_74 ?_
            obtain ⟨g10, h⟩ := dc_need h
            refine gk_iast hx hb hK hH 2 rfl (dk_in g10) dX9_setLength_75 [(a_t, .inr (8, [.int t_units, .ref a_t_population, .ref a_t_area, .ref a_t_community, .ref a_t_outer, .ref a_t_neighbors, .ref a_t_lengths, v_t_cores, v_t_districts, v_t_tolerance, v_t_hasPlan, .ref a_t_plan])), (a_t_lengths, .inl (k 0, 144, .inl (upd (upd t_lengths ((x1 * (12 : Int32)) + x2).toNatClampNeg x3) ((x2 * (12 : Int32)) + x1).toNatClampNeg x3))), (a_t_neighbors, .inl (k 0, 12, .inl (upd t_neighbors x1.toNatClampNeg ((t_neighbors x1.toNatClampNeg) &&& (((1 : Int32) <<< (x2 &&& 31)) ^^^ (-1 : Int32))))))] rfl (fun H locs hH => ?_)
            refine lv_aload_n hx hb dX9_setLength_76 rfl (lv_at hl 0 rfl) ?_
            refine gk_get (ci := 8) (C := RX9) (T := TX9) (N := 12) hx hb hts u_ws_X9 hown hK hH 0 rfl rfl 5 (by decide) u_fl_X9_28 rfl dX9_setLength_77 ?_
            refine lv_iload_n hx hb dX9_setLength_80 rfl (lv_at hl 2 rfl) ?_
            refine lv_dup2_11 hx hb dX9_setLength_81 rfl rfl ?_
            obtain ⟨g11, h⟩ := dc_need h
            refine gk_iald hx hb hK hH 2 rfl (dk_in g11) dX9_setLength_82 ?_
            refine lv_iconst (v := 1) hx hb dX9_setLength_83 (by decide) ?_
            refine lv_iload_n hx hb dX9_setLength_84 rfl (lv_at hl 1 rfl) ?_
            refine lv_ishl hx hb dX9_setLength_85 ?_
            refine lv_iconst (v := -1) hx hb dX9_setLength_86 (by decide) ?_
            refine lv_ixor hx hb dX9_setLength_87 ?_
            refine lv_iand hx hb dX9_setLength_88 ?_
            obtain ⟨g12, h⟩ := dc_need h
            refine gk_iast hx hb hK hH 2 rfl (dk_in g12) dX9_setLength_89 [(a_t, .inr (8, [.int t_units, .ref a_t_population, .ref a_t_area, .ref a_t_community, .ref a_t_outer, .ref a_t_neighbors, .ref a_t_lengths, v_t_cores, v_t_districts, v_t_tolerance, v_t_hasPlan, .ref a_t_plan])), (a_t_lengths, .inl (k 0, 144, .inl (upd (upd t_lengths ((x1 * (12 : Int32)) + x2).toNatClampNeg x3) ((x2 * (12 : Int32)) + x1).toNatClampNeg x3))), (a_t_neighbors, .inl (k 0, 12, .inl (upd (upd t_neighbors x1.toNatClampNeg ((t_neighbors x1.toNatClampNeg) &&& (((1 : Int32) <<< (x2 &&& 31)) ^^^ (-1 : Int32)))) x2.toNatClampNeg (((upd t_neighbors x1.toNatClampNeg ((t_neighbors x1.toNatClampNeg) &&& (((1 : Int32) <<< (x2 &&& 31)) ^^^ (-1 : Int32)))) x2.toNatClampNeg) &&& (((1 : Int32) <<< (x1 &&& 31)) ^^^ (-1 : Int32))))))] rfl (fun H locs hH => ?_)
            refine lv_iload_n hx hb dX9_setLength_90 rfl (lv_at hl 3 rfl) ?_
            refine lv_if_le (tgt := 118) hx hb dX9_setLength_91 (by decide) (fun c13 => ?_) (fun c13 => ?_)
            · replace h := dc_pos c13 h
              refine lv_iconst (v := 1) hx hb dX9_setLength_118 (by decide) ?_
              have h := Option.some.inj h
              subst h
              exact ge_z hx hb hr rfl hlocks hQ hK hH hAe rfl dX9_setLength_119
            · replace h := dc_neg c13 h
              refine lv_aload_n hx hb dX9_setLength_94 rfl (lv_at hl 0 rfl) ?_
              refine gk_get (ci := 8) (C := RX9) (T := TX9) (N := 12) hx hb hts u_ws_X9 hown hK hH 0 rfl rfl 5 (by decide) u_fl_X9_28 rfl dX9_setLength_95 ?_
              refine lv_iload_n hx hb dX9_setLength_98 rfl (lv_at hl 1 rfl) ?_
              refine lv_dup2_11 hx hb dX9_setLength_99 rfl rfl ?_
              obtain ⟨g14, h⟩ := dc_need h
              refine gk_iald hx hb hK hH 2 rfl (dk_in g14) dX9_setLength_100 ?_
              refine lv_iconst (v := 1) hx hb dX9_setLength_101 (by decide) ?_
              refine lv_iload_n hx hb dX9_setLength_102 rfl (lv_at hl 2 rfl) ?_
              refine lv_ishl hx hb dX9_setLength_103 ?_
              refine lv_ior hx hb dX9_setLength_104 ?_
              obtain ⟨g15, h⟩ := dc_need h
              refine gk_iast hx hb hK hH 2 rfl (dk_in g15) dX9_setLength_105 [(a_t, .inr (8, [.int t_units, .ref a_t_population, .ref a_t_area, .ref a_t_community, .ref a_t_outer, .ref a_t_neighbors, .ref a_t_lengths, v_t_cores, v_t_districts, v_t_tolerance, v_t_hasPlan, .ref a_t_plan])), (a_t_lengths, .inl (k 0, 144, .inl (upd (upd t_lengths ((x1 * (12 : Int32)) + x2).toNatClampNeg x3) ((x2 * (12 : Int32)) + x1).toNatClampNeg x3))), (a_t_neighbors, .inl (k 0, 12, .inl (upd (upd (upd t_neighbors x1.toNatClampNeg ((t_neighbors x1.toNatClampNeg) &&& (((1 : Int32) <<< (x2 &&& 31)) ^^^ (-1 : Int32)))) x2.toNatClampNeg (((upd t_neighbors x1.toNatClampNeg ((t_neighbors x1.toNatClampNeg) &&& (((1 : Int32) <<< (x2 &&& 31)) ^^^ (-1 : Int32)))) x2.toNatClampNeg) &&& (((1 : Int32) <<< (x1 &&& 31)) ^^^ (-1 : Int32)))) x1.toNatClampNeg (((upd (upd t_neighbors x1.toNatClampNeg ((t_neighbors x1.toNatClampNeg) &&& (((1 : Int32) <<< (x2 &&& 31)) ^^^ (-1 : Int32)))) x2.toNatClampNeg (((upd t_neighbors x1.toNatClampNeg ((t_neighbors x1.toNatClampNeg) &&& (((1 : Int32) <<< (x2 &&& 31)) ^^^ (-1 : Int32)))) x2.toNatClampNeg) &&& (((1 : Int32) <<< (x1 &&& 31)) ^^^ (-1 : Int32)))) x1.toNatClampNeg) ||| ((1 : Int32) <<< (x2 &&& 31))))))] rfl (fun H locs hH => ?_)
              refine lv_aload_n hx hb dX9_setLength_106 rfl (lv_at hl 0 rfl) ?_
              refine gk_get (ci := 8) (C := RX9) (T := TX9) (N := 12) hx hb hts u_ws_X9 hown hK hH 0 rfl rfl 5 (by decide) u_fl_X9_28 rfl dX9_setLength_107 ?_
              refine lv_iload_n hx hb dX9_setLength_110 rfl (lv_at hl 2 rfl) ?_
              refine lv_dup2_11 hx hb dX9_setLength_111 rfl rfl ?_
              obtain ⟨g16, h⟩ := dc_need h
              refine gk_iald hx hb hK hH 2 rfl (dk_in g16) dX9_setLength_112 ?_
              refine lv_iconst (v := 1) hx hb dX9_setLength_113 (by decide) ?_
              refine lv_iload_n hx hb dX9_setLength_114 rfl (lv_at hl 1 rfl) ?_
              refine lv_ishl hx hb dX9_setLength_115 ?_
              refine lv_ior hx hb dX9_setLength_116 ?_
              obtain ⟨g17, h⟩ := dc_need h
              refine gk_iast hx hb hK hH 2 rfl (dk_in g17) dX9_setLength_117 [(a_t, .inr (8, [.int t_units, .ref a_t_population, .ref a_t_area, .ref a_t_community, .ref a_t_outer, .ref a_t_neighbors, .ref a_t_lengths, v_t_cores, v_t_districts, v_t_tolerance, v_t_hasPlan, .ref a_t_plan])), (a_t_lengths, .inl (k 0, 144, .inl (upd (upd t_lengths ((x1 * (12 : Int32)) + x2).toNatClampNeg x3) ((x2 * (12 : Int32)) + x1).toNatClampNeg x3))), (a_t_neighbors, .inl (k 0, 12, .inl (upd (upd (upd (upd t_neighbors x1.toNatClampNeg ((t_neighbors x1.toNatClampNeg) &&& (((1 : Int32) <<< (x2 &&& 31)) ^^^ (-1 : Int32)))) x2.toNatClampNeg (((upd t_neighbors x1.toNatClampNeg ((t_neighbors x1.toNatClampNeg) &&& (((1 : Int32) <<< (x2 &&& 31)) ^^^ (-1 : Int32)))) x2.toNatClampNeg) &&& (((1 : Int32) <<< (x1 &&& 31)) ^^^ (-1 : Int32)))) x1.toNatClampNeg (((upd (upd t_neighbors x1.toNatClampNeg ((t_neighbors x1.toNatClampNeg) &&& (((1 : Int32) <<< (x2 &&& 31)) ^^^ (-1 : Int32)))) x2.toNatClampNeg (((upd t_neighbors x1.toNatClampNeg ((t_neighbors x1.toNatClampNeg) &&& (((1 : Int32) <<< (x2 &&& 31)) ^^^ (-1 : Int32)))) x2.toNatClampNeg) &&& (((1 : Int32) <<< (x1 &&& 31)) ^^^ (-1 : Int32)))) x1.toNatClampNeg) ||| ((1 : Int32) <<< (x2 &&& 31)))) x2.toNatClampNeg (((upd (upd (upd t_neighbors x1.toNatClampNeg ((t_neighbors x1.toNatClampNeg) &&& (((1 : Int32) <<< (x2 &&& 31)) ^^^ (-1 : Int32)))) x2.toNatClampNeg (((upd t_neighbors x1.toNatClampNeg ((t_neighbors x1.toNatClampNeg) &&& (((1 : Int32) <<< (x2 &&& 31)) ^^^ (-1 : Int32)))) x2.toNatClampNeg) &&& (((1 : Int32) <<< (x1 &&& 31)) ^^^ (-1 : Int32)))) x1.toNatClampNeg (((upd (upd t_neighbors x1.toNatClampNeg ((t_neighbors x1.toNatClampNeg) &&& (((1 : Int32) <<< (x2 &&& 31)) ^^^ (-1 : Int32)))) x2.toNatClampNeg (((upd t_neighbors x1.toNatClampNeg ((t_neighbors x1.toNatClampNeg) &&& (((1 : Int32) <<< (x2 &&& 31)) ^^^ (-1 : Int32)))) x2.toNatClampNeg) &&& (((1 : Int32) <<< (x1 &&& 31)) ^^^ (-1 : Int32)))) x1.toNatClampNeg) ||| ((1 : Int32) <<< (x2 &&& 31)))) x2.toNatClampNeg) ||| ((1 : Int32) <<< (x1 &&& 31))))))] rfl (fun H locs hH => ?_)
              refine lv_iconst (v := 1) hx hb dX9_setLength_118 (by decide) ?_
              have h := Option.some.inj h
              subst h
              exact ge_z hx hb hr rfl hlocks hQ hK hH hAe rfl dX9_setLength_119
          · replace h := dc_pos c6 h
            refine lv_iconst (v := 0) hx hb dX9_setLength_36 (by decide) ?_
            have h := Option.some.inj h
            subst h
            exact ge_z hx hb hr rfl hlocks hQ hK hH hAe rfl dX9_setLength_37
      · replace h := dc_pos c3 h
        refine lv_iconst (v := 0) hx hb dX9_setLength_21 (by decide) ?_
        have h := Option.some.inj h
        subst h
        exact ge_z hx hb hr rfl hlocks hQ hK hH hAe rfl dX9_setLength_22
theorem hd_X9_setOuter : yX9_setOuter.cls = RX9 ∧ yX9_setOuter.cls ≠ "java/lang/invoke/MethodHandle" ∧ yX9_setOuter.cls ≠ "java/lang/invoke/VarHandle" ∧ (parseMethodDescriptor yX9_setOuter.desc).map (fun d => d.parameters.length) = some 2 := by decide +kernel
set_option maxHeartbeats 4000000 in
set_option maxRecDepth 100000 in
theorem mX9_setOuter (l : Launch) (Ts : List Cond) (hTs : ∀ w, w ∈ Ts ↔ w ∈ uT) (D : va_G) (k : Nat → ClassId) (sz : Nat) (a_t : Nat) (a_t_population : Nat) (a_t_area : Nat) (a_t_community : Nat) (a_t_outer : Nat) (a_t_neighbors : Nat) (a_t_lengths : Nat) (a_t_plan : Nat) (t_outer : Nat → Int32) (t_units : Int32) (v_t_cores : Value) (v_t_districts : Value) (v_t_hasPlan : Value) (v_t_tolerance : Value) (x1 : Int32) (x2 : Int32) (r : Int32 × (Nat → Int32)) (h : fX9_setOuter t_outer t_units x1 x2 = some r) : Met l yX9_setOuter (Cond.code yX9_setOuter cX9_setOuter 3 (some .boolean) :: Ts) ({ frames := 0, cells := 0, slots := 0, locals := 0 } : Room) (preM D k [.ref a_t, .int x1, .int x2] [(a_t, .inr (8, [.int t_units, .ref a_t_population, .ref a_t_area, .ref a_t_community, .ref a_t_outer, .ref a_t_neighbors, .ref a_t_lengths, v_t_cores, v_t_districts, v_t_tolerance, v_t_hasPlan, .ref a_t_plan])), (a_t_outer, .inl (k 0, 12, .inl t_outer))] sz) (postI D k r.1 [(a_t, .inr (8, [.int t_units, .ref a_t_population, .ref a_t_area, .ref a_t_community, .ref a_t_outer, .ref a_t_neighbors, .ref a_t_lengths, v_t_cores, v_t_districts, v_t_tolerance, v_t_hasPlan, .ref a_t_plan])), (a_t_outer, .inl (k 0, 12, .inl t_outer))] [(a_t, .inr (8, [.int t_units, .ref a_t_population, .ref a_t_area, .ref a_t_community, .ref a_t_outer, .ref a_t_neighbors, .ref a_t_lengths, v_t_cores, v_t_districts, v_t_tolerance, v_t_hasPlan, .ref a_t_plan])), (a_t_outer, .inl (k 0, 12, .inl r.2))] sz) 0 0 (va_A [(a_t, .inr (8, [.int t_units, .ref a_t_population, .ref a_t_area, .ref a_t_community, .ref a_t_outer, .ref a_t_neighbors, .ref a_t_lengths, v_t_cores, v_t_districts, v_t_tolerance, v_t_hasPlan, .ref a_t_plan])), (a_t_outer, .inl (k 0, 12, .inl t_outer))] sz) := by
  refine Met.ofW (cc := cX9_setOuter) (maxL := 3) (ret := (some .boolean)) (by decide) rfl ?_
  intro p e s m args below meth c s₁ B hml hv
  obtain ⟨rfl, hsz, hP, hK, hD0⟩ := hv
  have hx := B.exec
  have hb := B.bytes
  have hr := B.returns
  have hts0 := atoms_spec (ws := (Cond.code yX9_setOuter cX9_setOuter 3 (some .boolean) :: Ts)) B.pre
  have hts : ∀ w ∈ uT, w.before _ s = true := fun w h => hts0 w (List.mem_cons_of_mem _ ((hTs w).mpr h))
  clear hts0
  have hown : s.vm.findClass RX9 = some m.cls := findClass_of_methodNamed B.named
  have hlocks := B.notSynchronized
  subst hsz
  have hD := hD0.self (sz := s.heap.size)
  generalize hAe : va_A [(a_t, .inr (8, [.int t_units, .ref a_t_population, .ref a_t_area, .ref a_t_community, .ref a_t_outer, .ref a_t_neighbors, .ref a_t_lengths, v_t_cores, v_t_districts, v_t_tolerance, v_t_hasPlan, .ref a_t_plan])), (a_t_outer, .inl (k 0, 12, .inl t_outer))] s.heap.size = A at hD ⊢
  have hA : ∀ q : Nat, s.heap.size ≤ q → A q := fun q h => by rw [← hAe]; exact Or.inr h
  have hH : HOK D A s.heap [(a_t, .inr (8, [.int t_units, .ref a_t_population, .ref a_t_area, .ref a_t_community, .ref a_t_outer, .ref a_t_neighbors, .ref a_t_lengths, v_t_cores, v_t_districts, v_t_tolerance, v_t_hasPlan, .ref a_t_plan])), (a_t_outer, .inl (k 0, 12, .inl t_outer))] s.heap [] := ⟨hP, hD, va_S.rf⟩
  have hl := lv_entry ([.ref a_t, .int x1, .int x2]) (n := 3) (Nat.le_of_ble_eq_true rfl)
  rw [lg_entry_eq]
  generalize (lg_sl ([.ref a_t, .int x1, .int x2]) ++ List.replicate (3 - (lg_sl ([.ref a_t, .int x1, .int x2])).length) Slot.unset).toArray = ls at hl ⊢
  have hl : lv_has ls 3 [(0, .ref a_t), (1, .int x1), (2, .int x2)] := hl
  generalize hQ : MQ below (postI D k r.1 [(a_t, .inr (8, [.int t_units, .ref a_t_population, .ref a_t_area, .ref a_t_community, .ref a_t_outer, .ref a_t_neighbors, .ref a_t_lengths, v_t_cores, v_t_districts, v_t_tolerance, v_t_hasPlan, .ref a_t_plan])), (a_t_outer, .inl (k 0, 12, .inl t_outer))] [(a_t, .inr (8, [.int t_units, .ref a_t_population, .ref a_t_area, .ref a_t_community, .ref a_t_outer, .ref a_t_neighbors, .ref a_t_lengths, v_t_cores, v_t_districts, v_t_tolerance, v_t_hasPlan, .ref a_t_plan])), (a_t_outer, .inl (k 0, 12, .inl r.2))] s.heap.size) (List.toArray [.ref a_t, .int x1, .int x2]) s 0 0 A = Q
  clear hP hD hD0
  suffices K : ∀ (H : Heap) (locs : List Loc), HOK D A s.heap [(a_t, .inr (8, [.int t_units, .ref a_t_population, .ref a_t_area, .ref a_t_community, .ref a_t_outer, .ref a_t_neighbors, .ref a_t_lengths, v_t_cores, v_t_districts, v_t_tolerance, v_t_hasPlan, .ref a_t_plan])), (a_t_outer, .inl (k 0, 12, .inl t_outer))] H locs → W p l e ({ frames := 0, cells := 0, slots := 0, locals := 0 } : Room) s m (List.toArray [.ref a_t, .int x1, .int x2]) below meth c H locs 0 0 Q (F0 m 0 ls []) from K s.heap [] hH
  intro H locs hH
  rw [fX9_setOuter] at h
  refine lv_iload_n hx hb dX9_setOuter_0 rfl (lv_at hl 1 rfl) ?_
  refine lv_aload_n hx hb dX9_setOuter_1 rfl (lv_at hl 0 rfl) ?_
  refine gk_get (ci := 8) (C := RX9) (T := TX9) (N := 12) hx hb hts u_ws_X9 hown hK hH 0 rfl rfl 0 (by decide) u_fl_X9_9 rfl dX9_setOuter_2 ?_
  refine lv_icmp_lt (tgt := 10) hx hb dX9_setOuter_5 (by decide) (fun c1 => ?_) (fun c1 => ?_)
  · replace h := dc_pos c1 h
    refine lv_aload_n hx hb dX9_setOuter_10 rfl (lv_at hl 0 rfl) ?_
    refine gk_get (ci := 8) (C := RX9) (T := TX9) (N := 12) hx hb hts u_ws_X9 hown hK hH 0 rfl rfl 4 (by decide) u_fl_X9_25 rfl dX9_setOuter_11 ?_
    refine lv_iload_n hx hb dX9_setOuter_14 rfl (lv_at hl 1 rfl) ?_
    refine lv_iload_n hx hb dX9_setOuter_15 rfl (lv_at hl 2 rfl) ?_
    obtain ⟨g2, h⟩ := dc_need h
    refine gk_iast hx hb hK hH 1 rfl (dk_in g2) dX9_setOuter_16 [(a_t, .inr (8, [.int t_units, .ref a_t_population, .ref a_t_area, .ref a_t_community, .ref a_t_outer, .ref a_t_neighbors, .ref a_t_lengths, v_t_cores, v_t_districts, v_t_tolerance, v_t_hasPlan, .ref a_t_plan])), (a_t_outer, .inl (k 0, 12, .inl (upd t_outer x1.toNatClampNeg x2)))] rfl (fun H locs hH => ?_)
    refine lv_iconst (v := 1) hx hb dX9_setOuter_17 (by decide) ?_
    have h := Option.some.inj h
    subst h
    exact ge_z hx hb hr rfl hlocks hQ hK hH hAe rfl dX9_setOuter_18
  · replace h := dc_neg c1 h
    refine lv_iconst (v := 0) hx hb dX9_setOuter_8 (by decide) ?_
    have h := Option.some.inj h
    subst h
    exact ge_z hx hb hr rfl hlocks hQ hK hH hAe rfl dX9_setOuter_9
theorem hd_X8_carryOutStatement : yX8_carryOutStatement.cls = RX8 ∧ yX8_carryOutStatement.cls ≠ "java/lang/invoke/MethodHandle" ∧ yX8_carryOutStatement.cls ≠ "java/lang/invoke/VarHandle" ∧ (parseMethodDescriptor yX8_carryOutStatement.desc).map (fun d => d.parameters.length) = some 1 := by decide +kernel
set_option maxHeartbeats 4000000 in
set_option maxRecDepth 100000 in
theorem mX8_carryOutStatement (l : Launch) (Ts : List Cond) (hTs : ∀ w, w ∈ Ts ↔ w ∈ uT) (D : va_G) (k : Nat → ClassId) (sz : Nat) (a_p1 : Nat) (a_t : Nat) (a_t_text : Nat) (a_p1_population : Nat) (a_p1_area : Nat) (a_p1_community : Nat) (a_p1_outer : Nat) (a_p1_neighbors : Nat) (a_p1_lengths : Nat) (a_p1_plan : Nat) (p1_area : Nat → Int32) (p1_community : Nat → Int32) (p1_cores : Int32) (p1_lengths : Nat → Int32) (p1_neighbors : Nat → Int32) (p1_outer : Nat → Int32) (p1_population : Nat → Int32) (p1_units : Int32) (t_first : Int32) (t_isCore : Int32) (t_kind : Int32) (t_second : Int32) (t_third : Int32) (v_p1_districts : Value) (v_p1_hasPlan : Value) (v_p1_tolerance : Value) (v_t_at : Value) (v_t_length : Value) (v_t_number : Value) (r : Int32 × (Nat → Int32) × (Nat → Int32) × Int32 × (Nat → Int32) × (Nat → Int32) × (Nat → Int32) × (Nat → Int32) × Int32) (h : fX8_carryOutStatement p1_area p1_community p1_cores p1_lengths p1_neighbors p1_outer p1_population p1_units t_first t_isCore t_kind t_second t_third = some r) : Met l yX8_carryOutStatement (Cond.code yX8_carryOutStatement cX8_carryOutStatement 2 (some .boolean) :: Ts) ({ frames := 2, cells := 0, slots := 0, locals := 45 } : Room) (preM D k [.ref a_t, .ref a_p1] [(a_t, .inr (7, [.ref a_t_text, v_t_length, v_t_at, v_t_number, .int t_kind, .int t_first, .int t_second, .int t_third, .int t_isCore])), (a_p1, .inr (8, [.int p1_units, .ref a_p1_population, .ref a_p1_area, .ref a_p1_community, .ref a_p1_outer, .ref a_p1_neighbors, .ref a_p1_lengths, .int p1_cores, v_p1_districts, v_p1_tolerance, v_p1_hasPlan, .ref a_p1_plan])), (a_p1_population, .inl (k 0, 12, .inl p1_population)), (a_p1_area, .inl (k 0, 12, .inl p1_area)), (a_p1_community, .inl (k 0, 12, .inl p1_community)), (a_p1_outer, .inl (k 0, 12, .inl p1_outer)), (a_p1_lengths, .inl (k 0, 144, .inl p1_lengths)), (a_p1_neighbors, .inl (k 0, 12, .inl p1_neighbors))] sz) (postI D k r.1 [(a_t, .inr (7, [.ref a_t_text, v_t_length, v_t_at, v_t_number, .int t_kind, .int t_first, .int t_second, .int t_third, .int t_isCore])), (a_p1, .inr (8, [.int p1_units, .ref a_p1_population, .ref a_p1_area, .ref a_p1_community, .ref a_p1_outer, .ref a_p1_neighbors, .ref a_p1_lengths, .int p1_cores, v_p1_districts, v_p1_tolerance, v_p1_hasPlan, .ref a_p1_plan])), (a_p1_population, .inl (k 0, 12, .inl p1_population)), (a_p1_area, .inl (k 0, 12, .inl p1_area)), (a_p1_community, .inl (k 0, 12, .inl p1_community)), (a_p1_outer, .inl (k 0, 12, .inl p1_outer)), (a_p1_lengths, .inl (k 0, 144, .inl p1_lengths)), (a_p1_neighbors, .inl (k 0, 12, .inl p1_neighbors))] [(a_t, .inr (7, [.ref a_t_text, v_t_length, v_t_at, v_t_number, .int t_kind, .int t_first, .int t_second, .int t_third, .int t_isCore])), (a_p1, .inr (8, [.int r.2.2.2.2.2.2.2.2, .ref a_p1_population, .ref a_p1_area, .ref a_p1_community, .ref a_p1_outer, .ref a_p1_neighbors, .ref a_p1_lengths, .int r.2.2.2.1, v_p1_districts, v_p1_tolerance, v_p1_hasPlan, .ref a_p1_plan])), (a_p1_population, .inl (k 0, 12, .inl r.2.2.2.2.2.2.2.1)), (a_p1_area, .inl (k 0, 12, .inl r.2.1)), (a_p1_community, .inl (k 0, 12, .inl r.2.2.1)), (a_p1_outer, .inl (k 0, 12, .inl r.2.2.2.2.2.2.1)), (a_p1_lengths, .inl (k 0, 144, .inl r.2.2.2.2.1)), (a_p1_neighbors, .inl (k 0, 12, .inl r.2.2.2.2.2.1))] sz) 0 0 (va_A [(a_t, .inr (7, [.ref a_t_text, v_t_length, v_t_at, v_t_number, .int t_kind, .int t_first, .int t_second, .int t_third, .int t_isCore])), (a_p1, .inr (8, [.int p1_units, .ref a_p1_population, .ref a_p1_area, .ref a_p1_community, .ref a_p1_outer, .ref a_p1_neighbors, .ref a_p1_lengths, .int p1_cores, v_p1_districts, v_p1_tolerance, v_p1_hasPlan, .ref a_p1_plan])), (a_p1_population, .inl (k 0, 12, .inl p1_population)), (a_p1_area, .inl (k 0, 12, .inl p1_area)), (a_p1_community, .inl (k 0, 12, .inl p1_community)), (a_p1_outer, .inl (k 0, 12, .inl p1_outer)), (a_p1_lengths, .inl (k 0, 144, .inl p1_lengths)), (a_p1_neighbors, .inl (k 0, 12, .inl p1_neighbors))] sz) := by
  refine Met.ofW (cc := cX8_carryOutStatement) (maxL := 2) (ret := (some .boolean)) (by decide) rfl ?_
  intro p e s m args below meth c s₁ B hml hv
  obtain ⟨rfl, hsz, hP, hK, hD0⟩ := hv
  have hx := B.exec
  have hb := B.bytes
  have hr := B.returns
  have hts0 := atoms_spec (ws := (Cond.code yX8_carryOutStatement cX8_carryOutStatement 2 (some .boolean) :: Ts)) B.pre
  have hts : ∀ w ∈ uT, w.before _ s = true := fun w h => hts0 w (List.mem_cons_of_mem _ ((hTs w).mpr h))
  clear hts0
  have hown : s.vm.findClass RX8 = some m.cls := findClass_of_methodNamed B.named
  have hlocks := B.notSynchronized
  subst hsz
  have hD := hD0.self (sz := s.heap.size)
  generalize hAe : va_A [(a_t, .inr (7, [.ref a_t_text, v_t_length, v_t_at, v_t_number, .int t_kind, .int t_first, .int t_second, .int t_third, .int t_isCore])), (a_p1, .inr (8, [.int p1_units, .ref a_p1_population, .ref a_p1_area, .ref a_p1_community, .ref a_p1_outer, .ref a_p1_neighbors, .ref a_p1_lengths, .int p1_cores, v_p1_districts, v_p1_tolerance, v_p1_hasPlan, .ref a_p1_plan])), (a_p1_population, .inl (k 0, 12, .inl p1_population)), (a_p1_area, .inl (k 0, 12, .inl p1_area)), (a_p1_community, .inl (k 0, 12, .inl p1_community)), (a_p1_outer, .inl (k 0, 12, .inl p1_outer)), (a_p1_lengths, .inl (k 0, 144, .inl p1_lengths)), (a_p1_neighbors, .inl (k 0, 12, .inl p1_neighbors))] s.heap.size = A at hD ⊢
  have hA : ∀ q : Nat, s.heap.size ≤ q → A q := fun q h => by rw [← hAe]; exact Or.inr h
  have hH : HOK D A s.heap [(a_t, .inr (7, [.ref a_t_text, v_t_length, v_t_at, v_t_number, .int t_kind, .int t_first, .int t_second, .int t_third, .int t_isCore])), (a_p1, .inr (8, [.int p1_units, .ref a_p1_population, .ref a_p1_area, .ref a_p1_community, .ref a_p1_outer, .ref a_p1_neighbors, .ref a_p1_lengths, .int p1_cores, v_p1_districts, v_p1_tolerance, v_p1_hasPlan, .ref a_p1_plan])), (a_p1_population, .inl (k 0, 12, .inl p1_population)), (a_p1_area, .inl (k 0, 12, .inl p1_area)), (a_p1_community, .inl (k 0, 12, .inl p1_community)), (a_p1_outer, .inl (k 0, 12, .inl p1_outer)), (a_p1_lengths, .inl (k 0, 144, .inl p1_lengths)), (a_p1_neighbors, .inl (k 0, 12, .inl p1_neighbors))] s.heap [] := ⟨hP, hD, va_S.rf⟩
  have hl := lv_entry ([.ref a_t, .ref a_p1]) (n := 2) (Nat.le_of_ble_eq_true rfl)
  rw [lg_entry_eq]
  generalize (lg_sl ([.ref a_t, .ref a_p1]) ++ List.replicate (2 - (lg_sl ([.ref a_t, .ref a_p1])).length) Slot.unset).toArray = ls at hl ⊢
  have hl : lv_has ls 2 [(0, .ref a_t), (1, .ref a_p1)] := hl
  generalize hQ : MQ below (postI D k r.1 [(a_t, .inr (7, [.ref a_t_text, v_t_length, v_t_at, v_t_number, .int t_kind, .int t_first, .int t_second, .int t_third, .int t_isCore])), (a_p1, .inr (8, [.int p1_units, .ref a_p1_population, .ref a_p1_area, .ref a_p1_community, .ref a_p1_outer, .ref a_p1_neighbors, .ref a_p1_lengths, .int p1_cores, v_p1_districts, v_p1_tolerance, v_p1_hasPlan, .ref a_p1_plan])), (a_p1_population, .inl (k 0, 12, .inl p1_population)), (a_p1_area, .inl (k 0, 12, .inl p1_area)), (a_p1_community, .inl (k 0, 12, .inl p1_community)), (a_p1_outer, .inl (k 0, 12, .inl p1_outer)), (a_p1_lengths, .inl (k 0, 144, .inl p1_lengths)), (a_p1_neighbors, .inl (k 0, 12, .inl p1_neighbors))] [(a_t, .inr (7, [.ref a_t_text, v_t_length, v_t_at, v_t_number, .int t_kind, .int t_first, .int t_second, .int t_third, .int t_isCore])), (a_p1, .inr (8, [.int r.2.2.2.2.2.2.2.2, .ref a_p1_population, .ref a_p1_area, .ref a_p1_community, .ref a_p1_outer, .ref a_p1_neighbors, .ref a_p1_lengths, .int r.2.2.2.1, v_p1_districts, v_p1_tolerance, v_p1_hasPlan, .ref a_p1_plan])), (a_p1_population, .inl (k 0, 12, .inl r.2.2.2.2.2.2.2.1)), (a_p1_area, .inl (k 0, 12, .inl r.2.1)), (a_p1_community, .inl (k 0, 12, .inl r.2.2.1)), (a_p1_outer, .inl (k 0, 12, .inl r.2.2.2.2.2.2.1)), (a_p1_lengths, .inl (k 0, 144, .inl r.2.2.2.2.1)), (a_p1_neighbors, .inl (k 0, 12, .inl r.2.2.2.2.2.1))] s.heap.size) (List.toArray [.ref a_t, .ref a_p1]) s 0 0 A = Q
  clear hP hD hD0
  suffices K : ∀ (H : Heap) (locs : List Loc), HOK D A s.heap [(a_t, .inr (7, [.ref a_t_text, v_t_length, v_t_at, v_t_number, .int t_kind, .int t_first, .int t_second, .int t_third, .int t_isCore])), (a_p1, .inr (8, [.int p1_units, .ref a_p1_population, .ref a_p1_area, .ref a_p1_community, .ref a_p1_outer, .ref a_p1_neighbors, .ref a_p1_lengths, .int p1_cores, v_p1_districts, v_p1_tolerance, v_p1_hasPlan, .ref a_p1_plan])), (a_p1_population, .inl (k 0, 12, .inl p1_population)), (a_p1_area, .inl (k 0, 12, .inl p1_area)), (a_p1_community, .inl (k 0, 12, .inl p1_community)), (a_p1_outer, .inl (k 0, 12, .inl p1_outer)), (a_p1_lengths, .inl (k 0, 144, .inl p1_lengths)), (a_p1_neighbors, .inl (k 0, 12, .inl p1_neighbors))] H locs → W p l e ({ frames := 2, cells := 0, slots := 0, locals := 45 } : Room) s m (List.toArray [.ref a_t, .ref a_p1]) below meth c H locs 0 0 Q (F0 m 0 ls []) from K s.heap [] hH
  intro H locs hH
  rw [fX8_carryOutStatement] at h
  refine lv_aload_n hx hb dX8_carryOutStatement_0 rfl (lv_at hl 0 rfl) ?_
  refine gk_get (ci := 7) (C := RX8) (T := TX8) (N := 9) hx hb hts u_ws_X8 hown hK hH 0 rfl rfl 4 (by decide) u_fl_X8_25 rfl dX8_carryOutStatement_1 ?_
  refine lv_bipush (v := 117) hx hb dX8_carryOutStatement_4 (by decide) ?_
  refine lv_icmp_ne (tgt := 30) hx hb dX8_carryOutStatement_6 (by decide) (fun c1 => ?_) (fun c1 => ?_)
  · replace h := dc_neg c1 h
    refine lv_aload_n hx hb dX8_carryOutStatement_30 rfl (lv_at hl 0 rfl) ?_
    refine gk_get (ci := 7) (C := RX8) (T := TX8) (N := 9) hx hb hts u_ws_X8 hown hK hH 0 rfl rfl 4 (by decide) u_fl_X8_25 rfl dX8_carryOutStatement_31 ?_
    refine lv_bipush (v := 98) hx hb dX8_carryOutStatement_34 (by decide) ?_
    refine lv_icmp_ne (tgt := 56) hx hb dX8_carryOutStatement_36 (by decide) (fun c4 => ?_) (fun c4 => ?_)
    · replace h := dc_neg c4 h
      refine lv_aload_n hx hb dX8_carryOutStatement_56 rfl (lv_at hl 1 rfl) ?_
      refine lv_aload_n hx hb dX8_carryOutStatement_57 rfl (lv_at hl 0 rfl) ?_
      refine gk_get (ci := 7) (C := RX8) (T := TX8) (N := 9) hx hb hts u_ws_X8 hown hK hH 0 rfl rfl 5 (by decide) u_fl_X8_28 rfl dX8_carryOutStatement_58 ?_
      refine lv_aload_n hx hb dX8_carryOutStatement_61 rfl (lv_at hl 0 rfl) ?_
      refine gk_get (ci := 7) (C := RX8) (T := TX8) (N := 9) hx hb hts u_ws_X8 hown hK hH 0 rfl rfl 6 (by decide) u_fl_X8_31 rfl dX8_carryOutStatement_62 ?_
      obtain ⟨q7, hqq7, h⟩ := dc_bind h
      refine gc_Vi (ws' := [(a_t, .inr (7, [.ref a_t_text, v_t_length, v_t_at, v_t_number, .int t_kind, .int t_first, .int t_second, .int t_third, .int t_isCore])), (a_p1, .inr (8, [.int p1_units, .ref a_p1_population, .ref a_p1_area, .ref a_p1_community, .ref a_p1_outer, .ref a_p1_neighbors, .ref a_p1_lengths, .int p1_cores, v_p1_districts, v_p1_tolerance, v_p1_hasPlan, .ref a_p1_plan])), (a_p1_population, .inl (k 0, 12, .inl p1_population)), (a_p1_area, .inl (k 0, 12, .inl p1_area)), (a_p1_community, .inl (k 0, 12, .inl p1_community)), (a_p1_outer, .inl (k 0, 12, .inl q7.2)), (a_p1_lengths, .inl (k 0, 144, .inl p1_lengths)), (a_p1_neighbors, .inl (k 0, 12, .inl p1_neighbors))]) (As := [.int t_first, .int t_second]) (rest := []) (n := 2) (ci := 8) (cq := (RX9, TX9, 12)) hTs ⟨hx, hb, hml, hown, hts⟩ (mX9_setOuter l Ts hTs D k H.size a_p1 a_p1_population a_p1_area a_p1_community a_p1_outer a_p1_neighbors a_p1_lengths a_p1_plan p1_outer p1_units (.int p1_cores) v_p1_districts v_p1_hasPlan v_p1_tolerance t_first t_second q7 hqq7) u_ml_X8_73 u_im_X9_setOuter u_se_X9_setOuter u_in_X9 u_co_X9_setOuter hd_X9_setOuter ⟨Nat.le_of_ble_eq_true rfl, Nat.le_of_ble_eq_true rfl⟩ ⟨rfl, rfl⟩ hK hH hA (cutM (isC := [1, 5]) [none, some 0, none, none, none, some 1, none, none] 8 rfl rfl rfl rfl rfl rfl rfl) rfl rfl rfl rfl hl.1 (Nat.le_of_ble_eq_true rfl) dX8_carryOutStatement_65 ⟨Nat.le_of_ble_eq_true rfl, Nat.le_of_ble_eq_true rfl⟩ (fun H locs hH => ?_)
      obtain ⟨g8, h⟩ := dc_need h
      have h := Option.some.inj h
      subst h
      exact ge_z hx hb hr (dk_bit g8).1 hlocks hQ hK hH hAe rfl dX8_carryOutStatement_68
    · replace h := dc_pos c4 h
      refine lv_aload_n hx hb dX8_carryOutStatement_39 rfl (lv_at hl 1 rfl) ?_
      refine lv_aload_n hx hb dX8_carryOutStatement_40 rfl (lv_at hl 0 rfl) ?_
      refine gk_get (ci := 7) (C := RX8) (T := TX8) (N := 9) hx hb hts u_ws_X8 hown hK hH 0 rfl rfl 5 (by decide) u_fl_X8_28 rfl dX8_carryOutStatement_41 ?_
      refine lv_aload_n hx hb dX8_carryOutStatement_44 rfl (lv_at hl 0 rfl) ?_
      refine gk_get (ci := 7) (C := RX8) (T := TX8) (N := 9) hx hb hts u_ws_X8 hown hK hH 0 rfl rfl 6 (by decide) u_fl_X8_31 rfl dX8_carryOutStatement_45 ?_
      refine lv_aload_n hx hb dX8_carryOutStatement_48 rfl (lv_at hl 0 rfl) ?_
      refine gk_get (ci := 7) (C := RX8) (T := TX8) (N := 9) hx hb hts u_ws_X8 hown hK hH 0 rfl rfl 7 (by decide) u_fl_X8_34 rfl dX8_carryOutStatement_49 ?_
      obtain ⟨q5, hqq5, h⟩ := dc_bind h
      refine gc_Vi (ws' := [(a_t, .inr (7, [.ref a_t_text, v_t_length, v_t_at, v_t_number, .int t_kind, .int t_first, .int t_second, .int t_third, .int t_isCore])), (a_p1, .inr (8, [.int p1_units, .ref a_p1_population, .ref a_p1_area, .ref a_p1_community, .ref a_p1_outer, .ref a_p1_neighbors, .ref a_p1_lengths, .int p1_cores, v_p1_districts, v_p1_tolerance, v_p1_hasPlan, .ref a_p1_plan])), (a_p1_population, .inl (k 0, 12, .inl p1_population)), (a_p1_area, .inl (k 0, 12, .inl p1_area)), (a_p1_community, .inl (k 0, 12, .inl p1_community)), (a_p1_outer, .inl (k 0, 12, .inl p1_outer)), (a_p1_lengths, .inl (k 0, 144, .inl q5.2.1)), (a_p1_neighbors, .inl (k 0, 12, .inl q5.2.2))]) (As := [.int t_first, .int t_second, .int t_third]) (rest := []) (n := 3) (ci := 8) (cq := (RX9, TX9, 12)) hTs ⟨hx, hb, hml, hown, hts⟩ (mX9_setLength l Ts hTs D k H.size a_p1 a_p1_population a_p1_area a_p1_community a_p1_outer a_p1_neighbors a_p1_lengths a_p1_plan p1_lengths p1_neighbors p1_units (.int p1_cores) v_p1_districts v_p1_hasPlan v_p1_tolerance t_first t_second t_third q5 hqq5) u_ml_X8_69 u_im_X9_setLength u_se_X9_setLength u_in_X9 u_co_X9_setLength hd_X9_setLength ⟨Nat.le_of_ble_eq_true rfl, Nat.le_of_ble_eq_true rfl⟩ ⟨rfl, rfl⟩ hK hH hA (cutM (isC := [1, 6, 7]) [none, some 0, none, none, none, none, some 1, some 2] 8 rfl rfl rfl rfl rfl rfl rfl) rfl rfl rfl rfl hl.1 (Nat.le_of_ble_eq_true rfl) dX8_carryOutStatement_52 ⟨Nat.le_of_ble_eq_true rfl, Nat.le_of_ble_eq_true rfl⟩ (fun H locs hH => ?_)
      obtain ⟨g6, h⟩ := dc_need h
      have h := Option.some.inj h
      subst h
      exact ge_z hx hb hr (dk_bit g6).1 hlocks hQ hK hH hAe rfl dX8_carryOutStatement_55
  · replace h := dc_pos c1 h
    refine lv_aload_n hx hb dX8_carryOutStatement_9 rfl (lv_at hl 1 rfl) ?_
    refine lv_aload_n hx hb dX8_carryOutStatement_10 rfl (lv_at hl 0 rfl) ?_
    refine gk_get (ci := 7) (C := RX8) (T := TX8) (N := 9) hx hb hts u_ws_X8 hown hK hH 0 rfl rfl 5 (by decide) u_fl_X8_28 rfl dX8_carryOutStatement_11 ?_
    refine lv_aload_n hx hb dX8_carryOutStatement_14 rfl (lv_at hl 0 rfl) ?_
    refine gk_get (ci := 7) (C := RX8) (T := TX8) (N := 9) hx hb hts u_ws_X8 hown hK hH 0 rfl rfl 6 (by decide) u_fl_X8_31 rfl dX8_carryOutStatement_15 ?_
    refine lv_aload_n hx hb dX8_carryOutStatement_18 rfl (lv_at hl 0 rfl) ?_
    refine gk_get (ci := 7) (C := RX8) (T := TX8) (N := 9) hx hb hts u_ws_X8 hown hK hH 0 rfl rfl 7 (by decide) u_fl_X8_34 rfl dX8_carryOutStatement_19 ?_
    refine lv_aload_n hx hb dX8_carryOutStatement_22 rfl (lv_at hl 0 rfl) ?_
    refine gk_get (ci := 7) (C := RX8) (T := TX8) (N := 9) hx hb hts u_ws_X8 hown hK hH 0 rfl rfl 8 (by decide) u_fl_X8_37 rfl dX8_carryOutStatement_23 ?_
    obtain ⟨q2, hqq2, h⟩ := dc_bind h
    refine gc_Vi (ws' := [(a_t, .inr (7, [.ref a_t_text, v_t_length, v_t_at, v_t_number, .int t_kind, .int t_first, .int t_second, .int t_third, .int t_isCore])), (a_p1, .inr (8, [.int q2.2.2.2.2.2.2, .ref a_p1_population, .ref a_p1_area, .ref a_p1_community, .ref a_p1_outer, .ref a_p1_neighbors, .ref a_p1_lengths, .int q2.2.2.2.1, v_p1_districts, v_p1_tolerance, v_p1_hasPlan, .ref a_p1_plan])), (a_p1_population, .inl (k 0, 12, .inl q2.2.2.2.2.2.1)), (a_p1_area, .inl (k 0, 12, .inl q2.2.1)), (a_p1_community, .inl (k 0, 12, .inl q2.2.2.1)), (a_p1_outer, .inl (k 0, 12, .inl q2.2.2.2.2.1)), (a_p1_lengths, .inl (k 0, 144, .inl p1_lengths)), (a_p1_neighbors, .inl (k 0, 12, .inl p1_neighbors))]) (As := [.int t_first, .int t_second, .int t_third, .int t_isCore]) (rest := []) (n := 4) (ci := 8) (cq := (RX9, TX9, 12)) hTs ⟨hx, hb, hml, hown, hts⟩ (mX9_addUnit l Ts hTs D k H.size a_p1 a_p1_population a_p1_area a_p1_community a_p1_outer a_p1_neighbors a_p1_lengths a_p1_plan p1_area p1_community p1_cores p1_outer p1_population p1_units v_p1_districts v_p1_hasPlan v_p1_tolerance t_first t_second t_third t_isCore q2 hqq2) u_ml_X8_63 u_im_X9_addUnit u_se_X9_addUnit u_in_X9 u_co_X9_addUnit hd_X9_addUnit ⟨Nat.le_of_ble_eq_true rfl, Nat.le_of_ble_eq_true rfl⟩ ⟨rfl, rfl⟩ hK hH hA (cutM (isC := [1, 2, 3, 4, 5]) [none, some 0, some 1, some 2, some 3, some 4, none, none] 8 rfl rfl rfl rfl rfl rfl rfl) rfl rfl rfl rfl hl.1 (Nat.le_of_ble_eq_true rfl) dX8_carryOutStatement_26 ⟨Nat.le_of_ble_eq_true rfl, Nat.le_of_ble_eq_true rfl⟩ (fun H locs hH => ?_)
    obtain ⟨g3, h⟩ := dc_need h
    have h := Option.some.inj h
    subst h
    exact ge_z hx hb hr (dk_bit g3).1 hlocks hQ hK hH hAe rfl dX8_carryOutStatement_29
theorem hd_X8_carryOut : yX8_carryOut.cls = RX8 ∧ yX8_carryOut.cls ≠ "java/lang/invoke/MethodHandle" ∧ yX8_carryOut.cls ≠ "java/lang/invoke/VarHandle" ∧ (parseMethodDescriptor yX8_carryOut.desc).map (fun d => d.parameters.length) = some 3 := by decide +kernel
set_option maxHeartbeats 4000000 in
set_option maxRecDepth 100000 in
theorem mX8_carryOut (l : Launch) (Ts : List Cond) (hTs : ∀ w, w ∈ Ts ↔ w ∈ uT) (D : va_G) (k : Nat → ClassId) (sz : Nat) (a_p1 : Nat) (a_p3 : Nat) (a_t : Nat) (a_t_text : Nat) (a_p3_population : Nat) (a_p3_area : Nat) (a_p3_community : Nat) (a_p3_outer : Nat) (a_p3_neighbors : Nat) (a_p3_lengths : Nat) (a_p3_plan : Nat) (p1 : Nat → Int32) (p3_area : Nat → Int32) (p3_community : Nat → Int32) (p3_cores : Int32) (p3_lengths : Nat → Int32) (p3_neighbors : Nat → Int32) (p3_outer : Nat → Int32) (p3_population : Nat → Int32) (p3_units : Int32) (t_first : Int32) (t_isCore : Int32) (t_kind : Int32) (t_number : Int32) (t_second : Int32) (t_third : Int32) (v_p3_districts : Value) (v_p3_hasPlan : Value) (v_p3_tolerance : Value) (v_t_at : Value) (v_t_length : Value) (x2 : Int32) (r : Int32 × (Nat → Int32) × (Nat → Int32) × Int32 × (Nat → Int32) × (Nat → Int32) × (Nat → Int32) × (Nat → Int32) × Int32 × Int32 × Int32 × Int32 × Int32 × Int32 × Int32 × Int32 × Int32) (h : fX8_carryOut p1 p3_area p3_community p3_cores p3_lengths p3_neighbors p3_outer p3_population p3_units t_first t_isCore t_kind t_number t_second t_third x2 = some r) : Met l yX8_carryOut (Cond.code yX8_carryOut cX8_carryOut 5 (some .int) :: Ts) ({ frames := 4, cells := 0, slots := 0, locals := 86 } : Room) (preM D k [.ref a_t, .ref a_p1, .int x2, .ref a_p3] [(a_t, .inr (7, [.ref a_t_text, v_t_length, v_t_at, .int t_number, .int t_kind, .int t_first, .int t_second, .int t_third, .int t_isCore])), (a_p1, .inl (k 1, 80, .inl p1)), (a_p3, .inr (8, [.int p3_units, .ref a_p3_population, .ref a_p3_area, .ref a_p3_community, .ref a_p3_outer, .ref a_p3_neighbors, .ref a_p3_lengths, .int p3_cores, v_p3_districts, v_p3_tolerance, v_p3_hasPlan, .ref a_p3_plan])), (a_p3_population, .inl (k 0, 12, .inl p3_population)), (a_p3_area, .inl (k 0, 12, .inl p3_area)), (a_p3_community, .inl (k 0, 12, .inl p3_community)), (a_p3_outer, .inl (k 0, 12, .inl p3_outer)), (a_p3_lengths, .inl (k 0, 144, .inl p3_lengths)), (a_p3_neighbors, .inl (k 0, 12, .inl p3_neighbors))] sz) (postI D k r.1 [(a_t, .inr (7, [.ref a_t_text, v_t_length, v_t_at, .int t_number, .int t_kind, .int t_first, .int t_second, .int t_third, .int t_isCore])), (a_p1, .inl (k 1, 80, .inl p1)), (a_p3, .inr (8, [.int p3_units, .ref a_p3_population, .ref a_p3_area, .ref a_p3_community, .ref a_p3_outer, .ref a_p3_neighbors, .ref a_p3_lengths, .int p3_cores, v_p3_districts, v_p3_tolerance, v_p3_hasPlan, .ref a_p3_plan])), (a_p3_population, .inl (k 0, 12, .inl p3_population)), (a_p3_area, .inl (k 0, 12, .inl p3_area)), (a_p3_community, .inl (k 0, 12, .inl p3_community)), (a_p3_outer, .inl (k 0, 12, .inl p3_outer)), (a_p3_lengths, .inl (k 0, 144, .inl p3_lengths)), (a_p3_neighbors, .inl (k 0, 12, .inl p3_neighbors))] [(a_t, .inr (7, [.ref a_p1, .int r.2.2.2.2.2.2.2.2.2.2.2.2.2.1, .int r.2.2.2.2.2.2.2.2.2.1, .int r.2.2.2.2.2.2.2.2.2.2.2.2.2.2.1, .int r.2.2.2.2.2.2.2.2.2.2.2.2.1, .int r.2.2.2.2.2.2.2.2.2.2.1, .int r.2.2.2.2.2.2.2.2.2.2.2.2.2.2.2.1, .int r.2.2.2.2.2.2.2.2.2.2.2.2.2.2.2.2, .int r.2.2.2.2.2.2.2.2.2.2.2.1])), (a_p1, .inl (k 1, 80, .inl p1)), (a_p3, .inr (8, [.int r.2.2.2.2.2.2.2.2.1, .ref a_p3_population, .ref a_p3_area, .ref a_p3_community, .ref a_p3_outer, .ref a_p3_neighbors, .ref a_p3_lengths, .int r.2.2.2.1, v_p3_districts, v_p3_tolerance, v_p3_hasPlan, .ref a_p3_plan])), (a_p3_population, .inl (k 0, 12, .inl r.2.2.2.2.2.2.2.1)), (a_p3_area, .inl (k 0, 12, .inl r.2.1)), (a_p3_community, .inl (k 0, 12, .inl r.2.2.1)), (a_p3_outer, .inl (k 0, 12, .inl r.2.2.2.2.2.2.1)), (a_p3_lengths, .inl (k 0, 144, .inl r.2.2.2.2.1)), (a_p3_neighbors, .inl (k 0, 12, .inl r.2.2.2.2.2.1))] sz) 0 0 (va_A [(a_t, .inr (7, [.ref a_t_text, v_t_length, v_t_at, .int t_number, .int t_kind, .int t_first, .int t_second, .int t_third, .int t_isCore])), (a_p1, .inl (k 1, 80, .inl p1)), (a_p3, .inr (8, [.int p3_units, .ref a_p3_population, .ref a_p3_area, .ref a_p3_community, .ref a_p3_outer, .ref a_p3_neighbors, .ref a_p3_lengths, .int p3_cores, v_p3_districts, v_p3_tolerance, v_p3_hasPlan, .ref a_p3_plan])), (a_p3_population, .inl (k 0, 12, .inl p3_population)), (a_p3_area, .inl (k 0, 12, .inl p3_area)), (a_p3_community, .inl (k 0, 12, .inl p3_community)), (a_p3_outer, .inl (k 0, 12, .inl p3_outer)), (a_p3_lengths, .inl (k 0, 144, .inl p3_lengths)), (a_p3_neighbors, .inl (k 0, 12, .inl p3_neighbors))] sz) := by
  refine Met.ofW (cc := cX8_carryOut) (maxL := 5) (ret := (some .int)) (by decide) rfl ?_
  intro p e s m args below meth c s₁ B hml hv
  obtain ⟨rfl, hsz, hP, hK, hD0⟩ := hv
  have hx := B.exec
  have hb := B.bytes
  have hr := B.returns
  have hts0 := atoms_spec (ws := (Cond.code yX8_carryOut cX8_carryOut 5 (some .int) :: Ts)) B.pre
  have hts : ∀ w ∈ uT, w.before _ s = true := fun w h => hts0 w (List.mem_cons_of_mem _ ((hTs w).mpr h))
  clear hts0
  have hown : s.vm.findClass RX8 = some m.cls := findClass_of_methodNamed B.named
  have hlocks := B.notSynchronized
  subst hsz
  have hD := hD0.self (sz := s.heap.size)
  generalize hAe : va_A [(a_t, .inr (7, [.ref a_t_text, v_t_length, v_t_at, .int t_number, .int t_kind, .int t_first, .int t_second, .int t_third, .int t_isCore])), (a_p1, .inl (k 1, 80, .inl p1)), (a_p3, .inr (8, [.int p3_units, .ref a_p3_population, .ref a_p3_area, .ref a_p3_community, .ref a_p3_outer, .ref a_p3_neighbors, .ref a_p3_lengths, .int p3_cores, v_p3_districts, v_p3_tolerance, v_p3_hasPlan, .ref a_p3_plan])), (a_p3_population, .inl (k 0, 12, .inl p3_population)), (a_p3_area, .inl (k 0, 12, .inl p3_area)), (a_p3_community, .inl (k 0, 12, .inl p3_community)), (a_p3_outer, .inl (k 0, 12, .inl p3_outer)), (a_p3_lengths, .inl (k 0, 144, .inl p3_lengths)), (a_p3_neighbors, .inl (k 0, 12, .inl p3_neighbors))] s.heap.size = A at hD ⊢
  have hA : ∀ q : Nat, s.heap.size ≤ q → A q := fun q h => by rw [← hAe]; exact Or.inr h
  have hH : HOK D A s.heap [(a_t, .inr (7, [.ref a_t_text, v_t_length, v_t_at, .int t_number, .int t_kind, .int t_first, .int t_second, .int t_third, .int t_isCore])), (a_p1, .inl (k 1, 80, .inl p1)), (a_p3, .inr (8, [.int p3_units, .ref a_p3_population, .ref a_p3_area, .ref a_p3_community, .ref a_p3_outer, .ref a_p3_neighbors, .ref a_p3_lengths, .int p3_cores, v_p3_districts, v_p3_tolerance, v_p3_hasPlan, .ref a_p3_plan])), (a_p3_population, .inl (k 0, 12, .inl p3_population)), (a_p3_area, .inl (k 0, 12, .inl p3_area)), (a_p3_community, .inl (k 0, 12, .inl p3_community)), (a_p3_outer, .inl (k 0, 12, .inl p3_outer)), (a_p3_lengths, .inl (k 0, 144, .inl p3_lengths)), (a_p3_neighbors, .inl (k 0, 12, .inl p3_neighbors))] s.heap [] := ⟨hP, hD, va_S.rf⟩
  have hl := lv_entry ([.ref a_t, .ref a_p1, .int x2, .ref a_p3]) (n := 5) (Nat.le_of_ble_eq_true rfl)
  rw [lg_entry_eq]
  generalize (lg_sl ([.ref a_t, .ref a_p1, .int x2, .ref a_p3]) ++ List.replicate (5 - (lg_sl ([.ref a_t, .ref a_p1, .int x2, .ref a_p3])).length) Slot.unset).toArray = ls at hl ⊢
  have hl : lv_has ls 5 [(0, .ref a_t), (1, .ref a_p1), (2, .int x2), (3, .ref a_p3)] := hl
  generalize hQ : MQ below (postI D k r.1 [(a_t, .inr (7, [.ref a_t_text, v_t_length, v_t_at, .int t_number, .int t_kind, .int t_first, .int t_second, .int t_third, .int t_isCore])), (a_p1, .inl (k 1, 80, .inl p1)), (a_p3, .inr (8, [.int p3_units, .ref a_p3_population, .ref a_p3_area, .ref a_p3_community, .ref a_p3_outer, .ref a_p3_neighbors, .ref a_p3_lengths, .int p3_cores, v_p3_districts, v_p3_tolerance, v_p3_hasPlan, .ref a_p3_plan])), (a_p3_population, .inl (k 0, 12, .inl p3_population)), (a_p3_area, .inl (k 0, 12, .inl p3_area)), (a_p3_community, .inl (k 0, 12, .inl p3_community)), (a_p3_outer, .inl (k 0, 12, .inl p3_outer)), (a_p3_lengths, .inl (k 0, 144, .inl p3_lengths)), (a_p3_neighbors, .inl (k 0, 12, .inl p3_neighbors))] [(a_t, .inr (7, [.ref a_p1, .int r.2.2.2.2.2.2.2.2.2.2.2.2.2.1, .int r.2.2.2.2.2.2.2.2.2.1, .int r.2.2.2.2.2.2.2.2.2.2.2.2.2.2.1, .int r.2.2.2.2.2.2.2.2.2.2.2.2.1, .int r.2.2.2.2.2.2.2.2.2.2.1, .int r.2.2.2.2.2.2.2.2.2.2.2.2.2.2.2.1, .int r.2.2.2.2.2.2.2.2.2.2.2.2.2.2.2.2, .int r.2.2.2.2.2.2.2.2.2.2.2.1])), (a_p1, .inl (k 1, 80, .inl p1)), (a_p3, .inr (8, [.int r.2.2.2.2.2.2.2.2.1, .ref a_p3_population, .ref a_p3_area, .ref a_p3_community, .ref a_p3_outer, .ref a_p3_neighbors, .ref a_p3_lengths, .int r.2.2.2.1, v_p3_districts, v_p3_tolerance, v_p3_hasPlan, .ref a_p3_plan])), (a_p3_population, .inl (k 0, 12, .inl r.2.2.2.2.2.2.2.1)), (a_p3_area, .inl (k 0, 12, .inl r.2.1)), (a_p3_community, .inl (k 0, 12, .inl r.2.2.1)), (a_p3_outer, .inl (k 0, 12, .inl r.2.2.2.2.2.2.1)), (a_p3_lengths, .inl (k 0, 144, .inl r.2.2.2.2.1)), (a_p3_neighbors, .inl (k 0, 12, .inl r.2.2.2.2.2.1))] s.heap.size) (List.toArray [.ref a_t, .ref a_p1, .int x2, .ref a_p3]) s 0 0 A = Q
  clear hP hD hD0
  suffices K : ∀ (H : Heap) (locs : List Loc), HOK D A s.heap [(a_t, .inr (7, [.ref a_t_text, v_t_length, v_t_at, .int t_number, .int t_kind, .int t_first, .int t_second, .int t_third, .int t_isCore])), (a_p1, .inl (k 1, 80, .inl p1)), (a_p3, .inr (8, [.int p3_units, .ref a_p3_population, .ref a_p3_area, .ref a_p3_community, .ref a_p3_outer, .ref a_p3_neighbors, .ref a_p3_lengths, .int p3_cores, v_p3_districts, v_p3_tolerance, v_p3_hasPlan, .ref a_p3_plan])), (a_p3_population, .inl (k 0, 12, .inl p3_population)), (a_p3_area, .inl (k 0, 12, .inl p3_area)), (a_p3_community, .inl (k 0, 12, .inl p3_community)), (a_p3_outer, .inl (k 0, 12, .inl p3_outer)), (a_p3_lengths, .inl (k 0, 144, .inl p3_lengths)), (a_p3_neighbors, .inl (k 0, 12, .inl p3_neighbors))] H locs → W p l e ({ frames := 4, cells := 0, slots := 0, locals := 86 } : Room) s m (List.toArray [.ref a_t, .ref a_p1, .int x2, .ref a_p3]) below meth c H locs 0 0 Q (F0 m 0 ls []) from K s.heap [] hH
  intro H locs hH
  have L9 : ∀ (y9_t_length : Int32) (n : Nat), ∀ (kf : (Nat → Int32) → (Nat → Int32) → Int32 → (Nat → Int32) → (Nat → Int32) → (Nat → Int32) → (Nat → Int32) → Int32 → Int32 → Int32 → Int32 → Int32 → Int32 → Int32 → Int32 → Option (Int32 × (Nat → Int32) × (Nat → Int32) × Int32 × (Nat → Int32) × (Nat → Int32) × (Nat → Int32) × (Nat → Int32) × Int32 × Int32 × Int32 × Int32 × Int32 × Int32 × Int32 × Int32 × Int32)) (y9_4 : Int32) (y9_p3_area : Nat → Int32) (y9_p3_community : Nat → Int32) (y9_p3_cores : Int32) (y9_p3_lengths : Nat → Int32) (y9_p3_neighbors : Nat → Int32) (y9_p3_outer : Nat → Int32) (y9_p3_population : Nat → Int32) (y9_p3_units : Int32) (y9_t_at : Int32) (y9_t_first : Int32) (y9_t_isCore : Int32) (y9_t_kind : Int32) (y9_t_number : Int32) (y9_t_second : Int32) (y9_t_third : Int32), fX8_carryOut_L9 p1 y9_t_length n kf y9_4 y9_p3_area y9_p3_community y9_p3_cores y9_p3_lengths y9_p3_neighbors y9_p3_outer y9_p3_population y9_p3_units y9_t_at y9_t_first y9_t_isCore y9_t_kind y9_t_number y9_t_second y9_t_third = some r → (∀ (z9_p3_area : Nat → Int32) (z9_p3_community : Nat → Int32) (z9_p3_cores : Int32) (z9_p3_lengths : Nat → Int32) (z9_p3_neighbors : Nat → Int32) (z9_p3_outer : Nat → Int32) (z9_p3_population : Nat → Int32) (z9_p3_units : Int32) (z9_t_at : Int32) (z9_t_first : Int32) (z9_t_isCore : Int32) (z9_t_kind : Int32) (z9_t_number : Int32) (z9_t_second : Int32) (z9_t_third : Int32) (H : Heap) (locs : List Loc) (ls : Array Slot), kf z9_p3_area z9_p3_community z9_p3_cores z9_p3_lengths z9_p3_neighbors z9_p3_outer z9_p3_population z9_p3_units z9_t_at z9_t_first z9_t_isCore z9_t_kind z9_t_number z9_t_second z9_t_third = some r → HOK D A s.heap [(a_t, .inr (7, [.ref a_p1, .int y9_t_length, .int z9_t_at, .int z9_t_number, .int z9_t_kind, .int z9_t_first, .int z9_t_second, .int z9_t_third, .int z9_t_isCore])), (a_p1, .inl (k 1, 80, .inl p1)), (a_p3, .inr (8, [.int z9_p3_units, .ref a_p3_population, .ref a_p3_area, .ref a_p3_community, .ref a_p3_outer, .ref a_p3_neighbors, .ref a_p3_lengths, .int z9_p3_cores, v_p3_districts, v_p3_tolerance, v_p3_hasPlan, .ref a_p3_plan])), (a_p3_population, .inl (k 0, 12, .inl z9_p3_population)), (a_p3_area, .inl (k 0, 12, .inl z9_p3_area)), (a_p3_community, .inl (k 0, 12, .inl z9_p3_community)), (a_p3_outer, .inl (k 0, 12, .inl z9_p3_outer)), (a_p3_lengths, .inl (k 0, 144, .inl z9_p3_lengths)), (a_p3_neighbors, .inl (k 0, 12, .inl z9_p3_neighbors))] H locs → lv_has ls 5 [] → W p l e ({ frames := 4, cells := 0, slots := 0, locals := 86 } : Room) s m (List.toArray [.ref a_t, .ref a_p1, .int x2, .ref a_p3]) below meth c H locs 0 0 Q (F0 m 51 ls [])) → ∀ (H : Heap) (locs : List Loc) (ls : Array Slot), HOK D A s.heap [(a_t, .inr (7, [.ref a_p1, .int y9_t_length, .int y9_t_at, .int y9_t_number, .int y9_t_kind, .int y9_t_first, .int y9_t_second, .int y9_t_third, .int y9_t_isCore])), (a_p1, .inl (k 1, 80, .inl p1)), (a_p3, .inr (8, [.int y9_p3_units, .ref a_p3_population, .ref a_p3_area, .ref a_p3_community, .ref a_p3_outer, .ref a_p3_neighbors, .ref a_p3_lengths, .int y9_p3_cores, v_p3_districts, v_p3_tolerance, v_p3_hasPlan, .ref a_p3_plan])), (a_p3_population, .inl (k 0, 12, .inl y9_p3_population)), (a_p3_area, .inl (k 0, 12, .inl y9_p3_area)), (a_p3_community, .inl (k 0, 12, .inl y9_p3_community)), (a_p3_outer, .inl (k 0, 12, .inl y9_p3_outer)), (a_p3_lengths, .inl (k 0, 144, .inl y9_p3_lengths)), (a_p3_neighbors, .inl (k 0, 12, .inl y9_p3_neighbors))] H locs → lv_has ls 5 [(0, .ref a_t), (3, .ref a_p3), (4, .int y9_4)] → W p l e ({ frames := 4, cells := 0, slots := 0, locals := 86 } : Room) s m (List.toArray [.ref a_t, .ref a_p1, .int x2, .ref a_p3]) below meth c H locs 0 0 Q (F0 m 9 ls []) := by
    intro y9_t_length n
    induction n with
    | zero =>
      intro kf y9_4 y9_p3_area y9_p3_community y9_p3_cores y9_p3_lengths y9_p3_neighbors y9_p3_outer y9_p3_population y9_p3_units y9_t_at y9_t_first y9_t_isCore y9_t_kind y9_t_number y9_t_second y9_t_third h
      exact absurd h (by rw [fX8_carryOut_L9]; exact fun q => by cases q)
    | succ n ih =>
      intro kf y9_4 y9_p3_area y9_p3_community y9_p3_cores y9_p3_lengths y9_p3_neighbors y9_p3_outer y9_p3_population y9_p3_units y9_t_at y9_t_first y9_t_isCore y9_t_kind y9_t_number y9_t_second y9_t_third h kk H locs ls hH hl
      rw [fX8_carryOut_L9] at h
      refine lv_iload hx hb dX8_carryOut_9 (lv_at hl 2 rfl) ?_
      refine lv_bipush (v := 80) hx hb dX8_carryOut_11 (by decide) ?_
      refine lv_icmp_ge (tgt := 51) hx hb dX8_carryOut_13 (by decide) (fun c2 => ?_) (fun c2 => ?_)
      · replace h := dc_pos c2 h
        exact kk y9_p3_area y9_p3_community y9_p3_cores y9_p3_lengths y9_p3_neighbors y9_p3_outer y9_p3_population y9_p3_units y9_t_at y9_t_first y9_t_isCore y9_t_kind y9_t_number y9_t_second y9_t_third H locs ls h hH (lv_sub hl [] rfl)
      · replace h := dc_neg c2 h
        refine lv_aload_n hx hb dX8_carryOut_16 rfl (lv_at hl 0 rfl) ?_
        obtain ⟨q3, hqq3, h⟩ := dc_bind h
        refine gc_Vi (ws' := [(a_t, .inr (7, [.ref a_p1, .int y9_t_length, .int q3.2.1, .int q3.2.2.2.2.2.1, .int q3.2.2.2.2.1, .int q3.2.2.1, .int q3.2.2.2.2.2.2.1, .int q3.2.2.2.2.2.2.2, .int q3.2.2.2.1])), (a_p1, .inl (k 1, 80, .inl p1)), (a_p3, .inr (8, [.int y9_p3_units, .ref a_p3_population, .ref a_p3_area, .ref a_p3_community, .ref a_p3_outer, .ref a_p3_neighbors, .ref a_p3_lengths, .int y9_p3_cores, v_p3_districts, v_p3_tolerance, v_p3_hasPlan, .ref a_p3_plan])), (a_p3_population, .inl (k 0, 12, .inl y9_p3_population)), (a_p3_area, .inl (k 0, 12, .inl y9_p3_area)), (a_p3_community, .inl (k 0, 12, .inl y9_p3_community)), (a_p3_outer, .inl (k 0, 12, .inl y9_p3_outer)), (a_p3_lengths, .inl (k 0, 144, .inl y9_p3_lengths)), (a_p3_neighbors, .inl (k 0, 12, .inl y9_p3_neighbors))]) (As := []) (rest := []) (n := 0) (ci := 7) (cq := (RX8, TX8, 9)) hTs ⟨hx, hb, hml, hown, hts⟩ (mX8_readStatement l Ts hTs D k H.size a_t a_p1 y9_t_at y9_t_first y9_t_isCore y9_t_length y9_t_number y9_t_second p1 y9_t_third (.int y9_t_kind) q3 hqq3) u_ml_X8_45 u_im_X8_readStatement u_se_X8_readStatement u_in_X8 u_co_X8_readStatement hd_X8_readStatement ⟨Nat.le_of_ble_eq_true rfl, Nat.le_of_ble_eq_true rfl⟩ ⟨rfl, rfl⟩ hK hH hA (cutM (isC := [0, 1]) [some 0, some 1, none, none, none, none, none, none, none] 9 rfl rfl rfl rfl rfl rfl rfl) rfl rfl rfl rfl hl.1 (Nat.le_of_ble_eq_true rfl) dX8_carryOut_17 ⟨Nat.le_of_ble_eq_true rfl, Nat.le_of_ble_eq_true rfl⟩ (fun H locs hH => ?_)
        refine lv_if_eq (tgt := 51) hx hb dX8_carryOut_20 (by decide) (fun c4 => ?_) (fun c4 => ?_)
        · replace h := dc_pos c4 h
          exact kk y9_p3_area y9_p3_community y9_p3_cores y9_p3_lengths y9_p3_neighbors y9_p3_outer y9_p3_population y9_p3_units q3.2.1 q3.2.2.1 q3.2.2.2.1 q3.2.2.2.2.1 q3.2.2.2.2.2.1 q3.2.2.2.2.2.2.1 q3.2.2.2.2.2.2.2 H locs ls h hH (lv_sub hl [] rfl)
        · replace h := dc_neg c4 h
          refine lv_aload_n hx hb dX8_carryOut_23 rfl (lv_at hl 0 rfl) ?_
          refine lv_aload_n hx hb dX8_carryOut_24 rfl (lv_at hl 1 rfl) ?_
          obtain ⟨q5, hqq5, h⟩ := dc_bind h
          refine gc_Vi (ws' := [(a_t, .inr (7, [.ref a_p1, .int y9_t_length, .int q3.2.1, .int q3.2.2.2.2.2.1, .int q3.2.2.2.2.1, .int q3.2.2.1, .int q3.2.2.2.2.2.2.1, .int q3.2.2.2.2.2.2.2, .int q3.2.2.2.1])), (a_p1, .inl (k 1, 80, .inl p1)), (a_p3, .inr (8, [.int q5.2.2.2.2.2.2.2.2, .ref a_p3_population, .ref a_p3_area, .ref a_p3_community, .ref a_p3_outer, .ref a_p3_neighbors, .ref a_p3_lengths, .int q5.2.2.2.1, v_p3_districts, v_p3_tolerance, v_p3_hasPlan, .ref a_p3_plan])), (a_p3_population, .inl (k 0, 12, .inl q5.2.2.2.2.2.2.2.1)), (a_p3_area, .inl (k 0, 12, .inl q5.2.1)), (a_p3_community, .inl (k 0, 12, .inl q5.2.2.1)), (a_p3_outer, .inl (k 0, 12, .inl q5.2.2.2.2.2.2.1)), (a_p3_lengths, .inl (k 0, 144, .inl q5.2.2.2.2.1)), (a_p3_neighbors, .inl (k 0, 12, .inl q5.2.2.2.2.2.1))]) (As := [.ref a_p3]) (rest := []) (n := 1) (ci := 7) (cq := (RX8, TX8, 9)) hTs ⟨hx, hb, hml, hown, hts⟩ (mX8_carryOutStatement l Ts hTs D k H.size a_p3 a_t a_p1 a_p3_population a_p3_area a_p3_community a_p3_outer a_p3_neighbors a_p3_lengths a_p3_plan y9_p3_area y9_p3_community y9_p3_cores y9_p3_lengths y9_p3_neighbors y9_p3_outer y9_p3_population y9_p3_units q3.2.2.1 q3.2.2.2.1 q3.2.2.2.2.1 q3.2.2.2.2.2.2.1 q3.2.2.2.2.2.2.2 v_p3_districts v_p3_hasPlan v_p3_tolerance (.int q3.2.1) (.int y9_t_length) (.int q3.2.2.2.2.2.1) q5 hqq5) u_ml_X8_53 u_im_X8_carryOutStatement u_se_X8_carryOutStatement u_in_X8 u_co_X8_carryOutStatement hd_X8_carryOutStatement ⟨Nat.le_of_ble_eq_true rfl, Nat.le_of_ble_eq_true rfl⟩ ⟨rfl, rfl⟩ hK hH hA (cutM (isC := [0, 2, 3, 4, 5, 6, 7, 8]) [some 0, none, some 1, some 2, some 3, some 4, some 5, some 6, some 7] 9 rfl rfl rfl rfl rfl rfl rfl) rfl rfl rfl rfl hl.1 (Nat.le_of_ble_eq_true rfl) dX8_carryOut_25 ⟨Nat.le_of_ble_eq_true rfl, Nat.le_of_ble_eq_true rfl⟩ (fun H locs hH => ?_)
          refine lv_if_ne (tgt := 34) hx hb dX8_carryOut_28 (by decide) (fun c6 => ?_) (fun c6 => ?_)
          · replace h := dc_neg c6 h
            refine lv_aload_n hx hb dX8_carryOut_34 rfl (lv_at hl 0 rfl) ?_
            refine lv_bipush (v := 59) hx hb dX8_carryOut_35 (by decide) ?_
            obtain ⟨q7, hqq7, h⟩ := dc_bind h
            refine gc_Vi (ws' := [(a_t, .inr (7, [.ref a_p1, .int y9_t_length, .int q7.2, .int q3.2.2.2.2.2.1, .int q3.2.2.2.2.1, .int q3.2.2.1, .int q3.2.2.2.2.2.2.1, .int q3.2.2.2.2.2.2.2, .int q3.2.2.2.1])), (a_p1, .inl (k 1, 80, .inl p1)), (a_p3, .inr (8, [.int q5.2.2.2.2.2.2.2.2, .ref a_p3_population, .ref a_p3_area, .ref a_p3_community, .ref a_p3_outer, .ref a_p3_neighbors, .ref a_p3_lengths, .int q5.2.2.2.1, v_p3_districts, v_p3_tolerance, v_p3_hasPlan, .ref a_p3_plan])), (a_p3_population, .inl (k 0, 12, .inl q5.2.2.2.2.2.2.2.1)), (a_p3_area, .inl (k 0, 12, .inl q5.2.1)), (a_p3_community, .inl (k 0, 12, .inl q5.2.2.1)), (a_p3_outer, .inl (k 0, 12, .inl q5.2.2.2.2.2.2.1)), (a_p3_lengths, .inl (k 0, 144, .inl q5.2.2.2.2.1)), (a_p3_neighbors, .inl (k 0, 12, .inl q5.2.2.2.2.2.1))]) (As := [.int (59 : Int32)]) (rest := []) (n := 1) (ci := 7) (cq := (RX8, TX8, 9)) hTs ⟨hx, hb, hml, hown, hts⟩ (mX8_take l Ts hTs D k H.size a_t a_p1 q3.2.1 y9_t_length p1 (.int q3.2.2.1) (.int q3.2.2.2.1) (.int q3.2.2.2.2.1) (.int q3.2.2.2.2.2.1) (.int q3.2.2.2.2.2.2.1) (.int q3.2.2.2.2.2.2.2) (59 : Int32) q7 hqq7) u_ml_X8_49 u_im_X8_take u_se_X8_take u_in_X8 u_co_X8_take hd_X8_take ⟨Nat.le_of_ble_eq_true rfl, Nat.le_of_ble_eq_true rfl⟩ ⟨rfl, rfl⟩ hK hH hA (cutM (isC := [0, 1]) [some 0, some 1, none, none, none, none, none, none, none] 9 rfl rfl rfl rfl rfl rfl rfl) rfl rfl rfl rfl hl.1 (Nat.le_of_ble_eq_true rfl) dX8_carryOut_37 ⟨Nat.le_of_ble_eq_true rfl, Nat.le_of_ble_eq_true rfl⟩ (fun H locs hH => ?_)
            refine lv_if_ne (tgt := 45) hx hb dX8_carryOut_40 (by decide) (fun c8 => ?_) (fun c8 => ?_)
            · replace h := dc_neg c8 h
              refine lv_iinc (v := (y9_4 + (1 : Int32))) (lv' := [(4, .int (y9_4 + (1 : Int32))), (0, .ref a_t), (3, .ref a_p3)]) hx hb dX8_carryOut_45 hl (k := 2) rfl rfl (by decide) rfl (fun ls hl => ?_)
              refine lv_goto (tgt := 9) hx hb dX8_carryOut_48 (by decide) ?_
              exact ih kf (y9_4 + (1 : Int32)) q5.2.1 q5.2.2.1 q5.2.2.2.1 q5.2.2.2.2.1 q5.2.2.2.2.2.1 q5.2.2.2.2.2.2.1 q5.2.2.2.2.2.2.2.1 q5.2.2.2.2.2.2.2.2 q7.2 q3.2.2.1 q3.2.2.2.1 q3.2.2.2.2.1 q3.2.2.2.2.2.1 q3.2.2.2.2.2.2.1 q3.2.2.2.2.2.2.2 h kk H locs ls hH (lv_sub hl [1, 2, 0] rfl)
            · replace h := dc_pos c8 h
              refine lv_iconst (v := -1) hx hb dX8_carryOut_43 (by decide) ?_
              have h := Option.some.inj h
              subst h
              exact ge_i hx hb hr hlocks hQ hK hH hAe rfl dX8_carryOut_44
          · replace h := dc_pos c6 h
            refine lv_iload hx hb dX8_carryOut_31 (lv_at hl 2 rfl) ?_
            have h := Option.some.inj h
            subst h
            exact ge_i hx hb hr hlocks hQ hK hH hAe rfl dX8_carryOut_33
  rw [fX8_carryOut] at h
  refine lv_aload_n hx hb dX8_carryOut_0 rfl (lv_at hl 0 rfl) ?_
  refine lv_aload_n hx hb dX8_carryOut_1 rfl (lv_at hl 1 rfl) ?_
  refine lv_iload_n hx hb dX8_carryOut_2 rfl (lv_at hl 2 rfl) ?_
  obtain ⟨q1, hqq1, h⟩ := dc_bind h
  refine gc_Vv (ws' := [(a_t, .inr (7, [.ref a_p1, .int q1.2, .int q1.1, .int t_number, .int t_kind, .int t_first, .int t_second, .int t_third, .int t_isCore])), (a_p1, .inl (k 1, 80, .inl p1)), (a_p3, .inr (8, [.int p3_units, .ref a_p3_population, .ref a_p3_area, .ref a_p3_community, .ref a_p3_outer, .ref a_p3_neighbors, .ref a_p3_lengths, .int p3_cores, v_p3_districts, v_p3_tolerance, v_p3_hasPlan, .ref a_p3_plan])), (a_p3_population, .inl (k 0, 12, .inl p3_population)), (a_p3_area, .inl (k 0, 12, .inl p3_area)), (a_p3_community, .inl (k 0, 12, .inl p3_community)), (a_p3_outer, .inl (k 0, 12, .inl p3_outer)), (a_p3_lengths, .inl (k 0, 144, .inl p3_lengths)), (a_p3_neighbors, .inl (k 0, 12, .inl p3_neighbors))]) (As := [.ref a_p1, .int x2]) (rest := []) (n := 2) (ci := 7) (cq := (RX8, TX8, 9)) hTs ⟨hx, hb, hml, hown, hts⟩ (mX8_begin l Ts hTs D k H.size a_p1 a_t a_t_text p1 v_t_at (.int t_first) (.int t_isCore) (.int t_kind) v_t_length (.int t_number) (.int t_second) (.int t_third) x2 q1 hqq1) u_ml_X8_41 u_im_X8_begin u_se_X8_begin u_in_X8 u_co_X8_begin hd_X8_begin ⟨Nat.le_of_ble_eq_true rfl, Nat.le_of_ble_eq_true rfl⟩ ⟨rfl, rfl⟩ hK hH hA (cutM (isC := [0, 1]) [some 0, some 1, none, none, none, none, none, none, none] 9 rfl rfl rfl rfl rfl rfl rfl) rfl rfl rfl rfl hl.1 (Nat.le_of_ble_eq_true rfl) dX8_carryOut_3 ⟨Nat.le_of_ble_eq_true rfl, Nat.le_of_ble_eq_true rfl⟩ (fun H locs hH => ?_)
  refine lv_iconst (v := 0) hx hb dX8_carryOut_6 (by decide) ?_
  refine lv_istore (lv' := [(4, .int (0 : Int32)), (0, .ref a_t), (1, .ref a_p1), (2, .int x2), (3, .ref a_p3)]) hx hb dX8_carryOut_7 hl (by decide) rfl (fun ls hl => ?_)
  refine L9 q1.2 _ _ (0 : Int32) p3_area p3_community p3_cores p3_lengths p3_neighbors p3_outer p3_population p3_units q1.1 t_first t_isCore t_kind t_number t_second t_third h (fun z9_p3_area z9_p3_community z9_p3_cores z9_p3_lengths z9_p3_neighbors z9_p3_outer z9_p3_population z9_p3_units z9_t_at z9_t_first z9_t_isCore z9_t_kind z9_t_number z9_t_second z9_t_third H locs ls h hH hl => ?_) H locs ls hH (lv_sub hl [1, 4, 0] rfl)
  refine lv_iconst (v := -1) hx hb dX8_carryOut_51 (by decide) ?_
  have h := Option.some.inj h
  subst h
  exact ge_i hx hb hr hlocks hQ hK hH hAe rfl dX8_carryOut_52
theorem hd_X9_removeUnits : yX9_removeUnits.cls = RX9 ∧ yX9_removeUnits.cls ≠ "java/lang/invoke/MethodHandle" ∧ yX9_removeUnits.cls ≠ "java/lang/invoke/VarHandle" ∧ (parseMethodDescriptor yX9_removeUnits.desc).map (fun d => d.parameters.length) = some 0 := by decide +kernel
set_option maxHeartbeats 4000000 in
set_option maxRecDepth 100000 in
theorem mX9_removeUnits (l : Launch) (Ts : List Cond) (hTs : ∀ w, w ∈ Ts ↔ w ∈ uT) (D : va_G) (k : Nat → ClassId) (sz : Nat) (a_t : Nat) (a_t_population : Nat) (a_t_area : Nat) (a_t_community : Nat) (a_t_outer : Nat) (a_t_neighbors : Nat) (a_t_lengths : Nat) (a_t_plan : Nat) (t_lengths : Nat → Int32) (t_neighbors : Nat → Int32) (v_t_cores : Value) (v_t_districts : Value) (v_t_hasPlan : Value) (v_t_tolerance : Value) (v_t_units : Value) (r : Int32 × (Nat → Int32) × (Nat → Int32) × Int32) (h : fX9_removeUnits t_lengths t_neighbors = some r) : Met l yX9_removeUnits (Cond.code yX9_removeUnits cX9_removeUnits 1 none :: Ts) ({ frames := 1, cells := 0, slots := 0, locals := 23 } : Room) (preM D k [.ref a_t] [(a_t, .inr (8, [v_t_units, .ref a_t_population, .ref a_t_area, .ref a_t_community, .ref a_t_outer, .ref a_t_neighbors, .ref a_t_lengths, v_t_cores, v_t_districts, v_t_tolerance, v_t_hasPlan, .ref a_t_plan])), (a_t_neighbors, .inl (k 0, 12, .inl t_neighbors)), (a_t_lengths, .inl (k 0, 144, .inl t_lengths))] sz) (postV D k [(a_t, .inr (8, [v_t_units, .ref a_t_population, .ref a_t_area, .ref a_t_community, .ref a_t_outer, .ref a_t_neighbors, .ref a_t_lengths, v_t_cores, v_t_districts, v_t_tolerance, v_t_hasPlan, .ref a_t_plan])), (a_t_neighbors, .inl (k 0, 12, .inl t_neighbors)), (a_t_lengths, .inl (k 0, 144, .inl t_lengths))] [(a_t, .inr (8, [.int r.2.2.2, .ref a_t_population, .ref a_t_area, .ref a_t_community, .ref a_t_outer, .ref a_t_neighbors, .ref a_t_lengths, .int r.1, v_t_districts, v_t_tolerance, v_t_hasPlan, .ref a_t_plan])), (a_t_neighbors, .inl (k 0, 12, .inl r.2.2.1)), (a_t_lengths, .inl (k 0, 144, .inl r.2.1))] sz) 0 0 (va_A [(a_t, .inr (8, [v_t_units, .ref a_t_population, .ref a_t_area, .ref a_t_community, .ref a_t_outer, .ref a_t_neighbors, .ref a_t_lengths, v_t_cores, v_t_districts, v_t_tolerance, v_t_hasPlan, .ref a_t_plan])), (a_t_neighbors, .inl (k 0, 12, .inl t_neighbors)), (a_t_lengths, .inl (k 0, 144, .inl t_lengths))] sz) := by
  refine Met.ofW (cc := cX9_removeUnits) (maxL := 1) (ret := none) (by decide) rfl ?_
  intro p e s m args below meth c s₁ B hml hv
  obtain ⟨rfl, hsz, hP, hK, hD0⟩ := hv
  have hx := B.exec
  have hb := B.bytes
  have hr := B.returns
  have hts0 := atoms_spec (ws := (Cond.code yX9_removeUnits cX9_removeUnits 1 none :: Ts)) B.pre
  have hts : ∀ w ∈ uT, w.before _ s = true := fun w h => hts0 w (List.mem_cons_of_mem _ ((hTs w).mpr h))
  clear hts0
  have hown : s.vm.findClass RX9 = some m.cls := findClass_of_methodNamed B.named
  have hlocks := B.notSynchronized
  subst hsz
  have hD := hD0.self (sz := s.heap.size)
  generalize hAe : va_A [(a_t, .inr (8, [v_t_units, .ref a_t_population, .ref a_t_area, .ref a_t_community, .ref a_t_outer, .ref a_t_neighbors, .ref a_t_lengths, v_t_cores, v_t_districts, v_t_tolerance, v_t_hasPlan, .ref a_t_plan])), (a_t_neighbors, .inl (k 0, 12, .inl t_neighbors)), (a_t_lengths, .inl (k 0, 144, .inl t_lengths))] s.heap.size = A at hD ⊢
  have hA : ∀ q : Nat, s.heap.size ≤ q → A q := fun q h => by rw [← hAe]; exact Or.inr h
  have hH : HOK D A s.heap [(a_t, .inr (8, [v_t_units, .ref a_t_population, .ref a_t_area, .ref a_t_community, .ref a_t_outer, .ref a_t_neighbors, .ref a_t_lengths, v_t_cores, v_t_districts, v_t_tolerance, v_t_hasPlan, .ref a_t_plan])), (a_t_neighbors, .inl (k 0, 12, .inl t_neighbors)), (a_t_lengths, .inl (k 0, 144, .inl t_lengths))] s.heap [] := ⟨hP, hD, va_S.rf⟩
  have hl := lv_entry ([.ref a_t]) (n := 1) (Nat.le_of_ble_eq_true rfl)
  rw [lg_entry_eq]
  generalize (lg_sl ([.ref a_t]) ++ List.replicate (1 - (lg_sl ([.ref a_t])).length) Slot.unset).toArray = ls at hl ⊢
  have hl : lv_has ls 1 [(0, .ref a_t)] := hl
  generalize hQ : MQ below (postV D k [(a_t, .inr (8, [v_t_units, .ref a_t_population, .ref a_t_area, .ref a_t_community, .ref a_t_outer, .ref a_t_neighbors, .ref a_t_lengths, v_t_cores, v_t_districts, v_t_tolerance, v_t_hasPlan, .ref a_t_plan])), (a_t_neighbors, .inl (k 0, 12, .inl t_neighbors)), (a_t_lengths, .inl (k 0, 144, .inl t_lengths))] [(a_t, .inr (8, [.int r.2.2.2, .ref a_t_population, .ref a_t_area, .ref a_t_community, .ref a_t_outer, .ref a_t_neighbors, .ref a_t_lengths, .int r.1, v_t_districts, v_t_tolerance, v_t_hasPlan, .ref a_t_plan])), (a_t_neighbors, .inl (k 0, 12, .inl r.2.2.1)), (a_t_lengths, .inl (k 0, 144, .inl r.2.1))] s.heap.size) (List.toArray [.ref a_t]) s 0 0 A = Q
  clear hP hD hD0
  suffices K : ∀ (H : Heap) (locs : List Loc), HOK D A s.heap [(a_t, .inr (8, [v_t_units, .ref a_t_population, .ref a_t_area, .ref a_t_community, .ref a_t_outer, .ref a_t_neighbors, .ref a_t_lengths, v_t_cores, v_t_districts, v_t_tolerance, v_t_hasPlan, .ref a_t_plan])), (a_t_neighbors, .inl (k 0, 12, .inl t_neighbors)), (a_t_lengths, .inl (k 0, 144, .inl t_lengths))] H locs → W p l e ({ frames := 1, cells := 0, slots := 0, locals := 23 } : Room) s m (List.toArray [.ref a_t]) below meth c H locs 0 0 Q (F0 m 0 ls []) from K s.heap [] hH
  intro H locs hH
  rw [fX9_removeUnits] at h
  refine lv_aload_n hx hb dX9_removeUnits_0 rfl (lv_at hl 0 rfl) ?_
  refine lv_iconst (v := 0) hx hb dX9_removeUnits_1 (by decide) ?_
  refine gk_put (ci := 8) (C := RX9) (T := TX9) (N := 12) hx hb hts u_ws_X9 tyX9_ok nmX9 hown hK hH 0 rfl rfl 0 (by decide) u_fl_X9_9 rfl rfl rfl (Nat.le_of_ble_eq_true rfl) dX9_removeUnits_2 [(a_t, .inr (8, [.int (0 : Int32), .ref a_t_population, .ref a_t_area, .ref a_t_community, .ref a_t_outer, .ref a_t_neighbors, .ref a_t_lengths, v_t_cores, v_t_districts, v_t_tolerance, v_t_hasPlan, .ref a_t_plan])), (a_t_neighbors, .inl (k 0, 12, .inl t_neighbors)), (a_t_lengths, .inl (k 0, 144, .inl t_lengths))] rfl (fun H locs hH => ?_)
  refine lv_aload_n hx hb dX9_removeUnits_5 rfl (lv_at hl 0 rfl) ?_
  refine lv_iconst (v := 0) hx hb dX9_removeUnits_6 (by decide) ?_
  refine gk_put (ci := 8) (C := RX9) (T := TX9) (N := 12) hx hb hts u_ws_X9 tyX9_ok nmX9 hown hK hH 0 rfl rfl 7 (by decide) u_fl_X9_34 rfl rfl rfl (Nat.le_of_ble_eq_true rfl) dX9_removeUnits_7 [(a_t, .inr (8, [.int (0 : Int32), .ref a_t_population, .ref a_t_area, .ref a_t_community, .ref a_t_outer, .ref a_t_neighbors, .ref a_t_lengths, .int (0 : Int32), v_t_districts, v_t_tolerance, v_t_hasPlan, .ref a_t_plan])), (a_t_neighbors, .inl (k 0, 12, .inl t_neighbors)), (a_t_lengths, .inl (k 0, 144, .inl t_lengths))] rfl (fun H locs hH => ?_)
  refine lv_aload_n hx hb dX9_removeUnits_10 rfl (lv_at hl 0 rfl) ?_
  refine gk_get (ci := 8) (C := RX9) (T := TX9) (N := 12) hx hb hts u_ws_X9 hown hK hH 0 rfl rfl 5 (by decide) u_fl_X9_28 rfl dX9_removeUnits_11 ?_
  refine lv_iconst (v := 0) hx hb dX9_removeUnits_14 (by decide) ?_
  obtain ⟨q1, hqq1, h⟩ := dc_bind h
  refine gc_Sv (ws' := [(a_t, .inr (8, [.int (0 : Int32), .ref a_t_population, .ref a_t_area, .ref a_t_community, .ref a_t_outer, .ref a_t_neighbors, .ref a_t_lengths, .int (0 : Int32), v_t_districts, v_t_tolerance, v_t_hasPlan, .ref a_t_plan])), (a_t_neighbors, .inl (k 0, 12, .inl q1)), (a_t_lengths, .inl (k 0, 144, .inl t_lengths))]) (As := [.ref a_t_neighbors, .int (0 : Int32)]) (rest := []) (n := 2) hTs ⟨hx, hb, hml, hown, hts⟩ (mJ7_fill_53178 l Ts hTs D k H.size 12 a_t_neighbors t_neighbors (0 : Int32) q1 hqq1) u_ml_X9_64 u_st_J7_fill_53178 u_in_J7 u_co_J7_fill_53178 hd_J7_fill_53178 ⟨Nat.le_of_ble_eq_true rfl, Nat.le_of_ble_eq_true rfl⟩ ⟨rfl, rfl⟩ hK hH hA (cutM (isC := [1]) [none, some 0, none] 3 rfl rfl rfl rfl rfl rfl rfl) rfl rfl hl.1 (Nat.le_of_ble_eq_true rfl) dX9_removeUnits_15 ⟨Nat.le_of_ble_eq_true rfl, Nat.le_of_ble_eq_true rfl⟩ (fun H locs hH => ?_)
  refine lv_aload_n hx hb dX9_removeUnits_18 rfl (lv_at hl 0 rfl) ?_
  refine gk_get (ci := 8) (C := RX9) (T := TX9) (N := 12) hx hb hts u_ws_X9 hown hK hH 0 rfl rfl 6 (by decide) u_fl_X9_31 rfl dX9_removeUnits_19 ?_
  refine lv_iconst (v := 0) hx hb dX9_removeUnits_22 (by decide) ?_
  obtain ⟨q2, hqq2, h⟩ := dc_bind h
  refine gc_Sv (ws' := [(a_t, .inr (8, [.int (0 : Int32), .ref a_t_population, .ref a_t_area, .ref a_t_community, .ref a_t_outer, .ref a_t_neighbors, .ref a_t_lengths, .int (0 : Int32), v_t_districts, v_t_tolerance, v_t_hasPlan, .ref a_t_plan])), (a_t_neighbors, .inl (k 0, 12, .inl q1)), (a_t_lengths, .inl (k 0, 144, .inl q2))]) (As := [.ref a_t_lengths, .int (0 : Int32)]) (rest := []) (n := 2) hTs ⟨hx, hb, hml, hown, hts⟩ (mJ7_fill_53178 l Ts hTs D k H.size 144 a_t_lengths t_lengths (0 : Int32) q2 hqq2) u_ml_X9_64 u_st_J7_fill_53178 u_in_J7 u_co_J7_fill_53178 hd_J7_fill_53178 ⟨Nat.le_of_ble_eq_true rfl, Nat.le_of_ble_eq_true rfl⟩ ⟨rfl, rfl⟩ hK hH hA (cutM (isC := [2]) [none, none, some 0] 3 rfl rfl rfl rfl rfl rfl rfl) rfl rfl hl.1 (Nat.le_of_ble_eq_true rfl) dX9_removeUnits_23 ⟨Nat.le_of_ble_eq_true rfl, Nat.le_of_ble_eq_true rfl⟩ (fun H locs hH => ?_)
  have h := Option.some.inj h
  subst h
  exact ge_v hx hb hr hlocks hQ hK hH hAe dX9_removeUnits_26
