set_option maxHeartbeats 16000000 in
set_option maxRecDepth 100000 in
theorem whole_start {p : Program} {e : Env} {s : State} {m : MethodId} {below : List Frame} {meth : Method} {c : Code} (l : Launch) (hflags : l.flags = flags0) {b L : Nat} {xs : Nat → Int32} (hL : L ≤ 2048) (C0 : lw_At p s m meth c b L xs) : W p l e room_1 s m #[Value.ref b] below meth c s.heap [] 0 0 (lw_Z below #[Value.ref b] s) (entryFrame m ([Value.ref b] : List Value).toArray 9) := by
  obtain ⟨hx, hb, hr, hml, hown, htl, hX9, hbl, hlocks, hgv⟩ := id C0
  have hst0 : l.stackTraces = false := by unfold Launch.stackTraces; rw [hflags]; decide +kernel
  have hts : ∀ w ∈ uT, w.before #[Value.ref b] s = true := fun w h => htl w (List.mem_filter.mp h).1
  have hown : s.vm.findClass RL = some m.cls := hown
  have hb : c.code = cL_law := hb
  obtain ⟨D, k, hK⟩ := start_K htl
  have hX := start_X htl hgv hK
  have hN := start_N hgv
  have hC := start_C htl
  have hA : ∀ q : Nat, s.heap.size ≤ q → (fun q : Nat => s.heap.size ≤ q) q := fun _ h => h
  have hend : ∀ (H : Heap) (locs : List Loc) (ls : Array Slot) (cells slots : Nat), cells ≤ 601024 → slots ≤ 7293034 → (∀ z ∈ locs, s.heap.size ≤ z.base) → W p l e room_1 s m #[Value.ref b] below meth c H locs cells slots (lw_Z below #[Value.ref b] s) (F0 m 1975 ls []) := by
    intro H locs ls cells slots h1 h2 h3
    refine lv_iconst (v := 1) hx hb dL_law_1975 (by decide) ?_
    refine va_forget h3 ?_
    refine W.widen (k := 601024) (n := 7293034) h1 h2 ?_
    exact lw_ret (d0 := s.drawn) (Drawn.sameBut.refl s.drawn lw_cs) hx hb hr hlocks dL_law_1976
  have hH : HOK D (fun q : Nat => s.heap.size ≤ q) s.heap [] s.heap [] := ⟨fun k q h => by simp at h, ⟨fun i j p q h => by simp at h, fun k q h => by simp at h⟩, va_S.rf⟩
  have hl := lv_entry ([.ref b]) (n := 9) (Nat.le_of_ble_eq_true rfl)
  rw [lg_entry_eq]
  generalize (lg_sl ([.ref b]) ++ List.replicate (9 - (lg_sl ([.ref b])).length) Slot.unset).toArray = ls at hl ⊢
  have hl : lv_has ls 9 [(0, .ref b)] := hl
  suffices K : ∀ (H : Heap) (locs : List Loc), HOK D (fun q : Nat => s.heap.size ≤ q) s.heap [] H locs → W p l e room_1 s m #[Value.ref b] below meth c H locs 0 0 (lw_Z below #[Value.ref b] s) (F0 m 0 ls []) from K s.heap [] hH
  intro H locs hH
  refine gk_new (ci := 9) (fs := [.null, .int 0, .int 0, .int 0, .int 0, .int 0, .null, .null, .null, .null, .null, .null, .null, .null, .null, .null, .null]) (C := RX10) (T := TX10) (N := 17) hx hb hts u_ws_X10 tyX10_ok hown u_cl_L_8 u_is_X10 u_in_X10 hK hH hA rfl (fun j hj => by rcases (show j = 0 ∨ j = 1 ∨ j = 2 ∨ j = 3 ∨ j = 4 ∨ j = 5 ∨ j = 6 ∨ j = 7 ∨ j = 8 ∨ j = 9 ∨ j = 10 ∨ j = 11 ∨ j = 12 ∨ j = 13 ∨ j = 14 ∨ j = 15 ∨ j = 16 by omega) with rfl | rfl | rfl | rfl | rfl | rfl | rfl | rfl | rfl | rfl | rfl | rfl | rfl | rfl | rfl | rfl | rfl <;> rfl) (Nat.le_of_ble_eq_true rfl) (Nat.le_of_ble_eq_true rfl) dL_law_0 (fun q0 H hH => ?_)
  refine lv_dup hx hb dL_law_3 rfl ?_
  refine gn_I (pre := []) (new := newX10 k q0) (fun _ => Iff.rfl) ⟨hx, hb, hml, hown, hts⟩ (mX10_init l uT (fun _ => Iff.rfl) D k H.size q0) u_ml_L_116 u_im_X10_init u_in_X10 u_co_X10_init rfl hd_X10_init ⟨Nat.le_of_ble_eq_true rfl, Nat.le_of_ble_eq_true rfl⟩ ⟨rfl, rfl⟩ hK hC hH hA hl.1 (Nat.le_of_ble_eq_true rfl) dL_law_4 ⟨Nat.le_of_ble_eq_true rfl, Nat.le_of_ble_eq_true rfl⟩ (fun b0 H locs hH => ?_)
  obtain ⟨t1, ht1⟩ : ∃ t : va_W, t = newX10 k q0 b0 := ⟨_, rfl⟩
  have hH : HOK D (fun q : Nat => s.heap.size ≤ q) s.heap t1 H locs := by rw [ht1]; exact hH
  refine lv_astore_n (lv' := [(1, .ref q0), (0, .ref b)]) hx hb dL_law_7 rfl hl (by decide) rfl (fun ls hl => ?_)
  refine gk_new (ci := 10) (fs := [.int 0, .null, .null, .null, .int 0, .null, .int 0, .null, .int 0, .int 0, .int 0, .int 0, .null, .null, .int 0, .int 0, .int 0, .long 0, .long 0, .long 0, .long 0, .null, .null, .null, .null, .null]) (C := RX11) (T := TX11) (N := 26) hx hb hts u_ws_X11 tyX11_ok hown u_cl_L_117 u_is_X11 u_in_X11 hK hH hA rfl (fun j hj => by rcases (show j = 0 ∨ j = 1 ∨ j = 2 ∨ j = 3 ∨ j = 4 ∨ j = 5 ∨ j = 6 ∨ j = 7 ∨ j = 8 ∨ j = 9 ∨ j = 10 ∨ j = 11 ∨ j = 12 ∨ j = 13 ∨ j = 14 ∨ j = 15 ∨ j = 16 ∨ j = 17 ∨ j = 18 ∨ j = 19 ∨ j = 20 ∨ j = 21 ∨ j = 22 ∨ j = 23 ∨ j = 24 ∨ j = 25 by omega) with rfl | rfl | rfl | rfl | rfl | rfl | rfl | rfl | rfl | rfl | rfl | rfl | rfl | rfl | rfl | rfl | rfl | rfl | rfl | rfl | rfl | rfl | rfl | rfl | rfl | rfl <;> rfl) (Nat.le_of_ble_eq_true rfl) (Nat.le_of_ble_eq_true rfl) dL_law_8 (fun q1 H hH => ?_)
  refine lv_dup hx hb dL_law_11 rfl ?_
  refine gn_I (pre := t1) (new := newX11 k q1) (fun _ => Iff.rfl) ⟨hx, hb, hml, hown, hts⟩ (mX11_init l uT (fun _ => Iff.rfl) D k H.size q1) u_ml_L_119 u_im_X11_init u_in_X11 u_co_X11_init rfl hd_X11_init ⟨Nat.le_of_ble_eq_true rfl, Nat.le_of_ble_eq_true rfl⟩ ⟨rfl, rfl⟩ hK hC hH hA hl.1 (Nat.le_of_ble_eq_true rfl) dL_law_12 ⟨Nat.le_of_ble_eq_true rfl, Nat.le_of_ble_eq_true rfl⟩ (fun b1 H locs hH => ?_)
  obtain ⟨t2, ht2⟩ : ∃ t : va_W, t = t1 ++ newX11 k q1 b1 := ⟨_, rfl⟩
  have hH : HOK D (fun q : Nat => s.heap.size ≤ q) s.heap t2 H locs := by rw [ht2]; exact hH
  refine lv_astore_n (lv' := [(2, .ref q1), (1, .ref q0), (0, .ref b)]) hx hb dL_law_15 rfl hl (by decide) rfl (fun ls hl => ?_)
  refine lv_iconst (v := 1) hx hb dL_law_16 (by decide) ?_
  refine gk_newa (atype := .long) (ty := .long) (N' := 1) (a0 := (1, .inr (.inl fun _ => 0))) hx hb hts rfl u_ac_long hK hH hA 6 rfl (fun _ => rfl) (by decide) (by decide) (by decide) (Nat.le_of_ble_eq_true rfl) (Nat.le_of_ble_eq_true rfl) dL_law_17 (fun q2 H hH => ?_)
  obtain ⟨t3, ht3⟩ : ∃ t : va_W, t = t2 ++ [(q2, .inl (k 6, 1, .inr (.inl fun _ => 0)))] := ⟨_, rfl⟩
  have hH : HOK D (fun q : Nat => s.heap.size ≤ q) s.heap t3 H locs := by rw [ht3]; exact hH
  refine lv_astore_n (lv' := [(3, .ref q2), (2, .ref q1), (1, .ref q0), (0, .ref b)]) hx hb dL_law_19 rfl hl (by decide) rfl (fun ls hl => ?_)
  refine lv_iconst (v := 1) hx hb dL_law_20 (by decide) ?_
  refine gk_newa (atype := .double) (ty := .double) (N' := 1) (a0 := (1, .inr (.inr (.inr (.inl fun _ => 0))))) hx hb hts rfl u_ac_double hK hH hA 7 rfl (fun _ => rfl) (by decide) (by decide) (by decide) (Nat.le_of_ble_eq_true rfl) (Nat.le_of_ble_eq_true rfl) dL_law_21 (fun q3 H hH => ?_)
  refine lv_astore (lv' := [(4, .ref q3), (3, .ref q2), (2, .ref q1), (1, .ref q0), (0, .ref b)]) hx hb dL_law_23 hl (by decide) rfl (fun ls hl => ?_)
  refine lv_iconst (v := 0) hx hb dL_law_25 (by decide) ?_
  refine lv_istore (lv' := [(5, .int 0), (4, .ref q3), (3, .ref q2), (2, .ref q1), (1, .ref q0), (0, .ref b)]) hx hb dL_law_26 hl (by decide) rfl (fun ls hl => ?_)
  rw [ht3, ht2, ht1] at hH
  have hI := flat_inv q0 q1 q2 q3 b0 b1 hH
  refine W.widen (k := 1000) (n := 50000) (by decide) (by decide) ?_
  exact law_loop q0 (b0 10) (b0 11) (b0 21) (b0 31) (b0 41) (b0 44) (b0 46) (b0 47) (b0 56) (b0 65) (b0 147) (b0 0) (b0 22) (b0 23) (b0 24) (b0 25) (b0 26) (b0 27) (b0 28) (b0 12) (b0 13) (b0 14) (b0 15) (b0 16) (b0 17) (b0 18) (b0 29) (b0 30) (b0 19) (b0 20) (b0 66) (fun i => [(b0 67), (b0 77), (b0 87), (b0 97), (b0 107), (b0 117), (b0 127), (b0 137)].getD i 0) (fun i => [(b0 68), (b0 78), (b0 88), (b0 98), (b0 108), (b0 118), (b0 128), (b0 138)].getD i 0) (fun i => [(b0 69), (b0 79), (b0 89), (b0 99), (b0 109), (b0 119), (b0 129), (b0 139)].getD i 0) (fun i => [(b0 70), (b0 80), (b0 90), (b0 100), (b0 110), (b0 120), (b0 130), (b0 140)].getD i 0) (fun i => [(b0 71), (b0 81), (b0 91), (b0 101), (b0 111), (b0 121), (b0 131), (b0 141)].getD i 0) (fun i => [(b0 72), (b0 82), (b0 92), (b0 102), (b0 112), (b0 122), (b0 132), (b0 142)].getD i 0) (fun i => [(b0 73), (b0 83), (b0 93), (b0 103), (b0 113), (b0 123), (b0 133), (b0 143)].getD i 0) (fun i => [(b0 74), (b0 84), (b0 94), (b0 104), (b0 114), (b0 124), (b0 134), (b0 144)].getD i 0) (fun i => [(b0 75), (b0 85), (b0 95), (b0 105), (b0 115), (b0 125), (b0 135), (b0 145)].getD i 0) (fun i => [(b0 76), (b0 86), (b0 96), (b0 106), (b0 116), (b0 126), (b0 136), (b0 146)].getD i 0) (b0 57) (b0 58) (b0 59) (b0 60) (b0 63) (b0 64) (b0 42) (b0 43) (b0 48) (b0 51) (b0 54) (b0 55) (b0 52) (b0 53) (b0 49) (b0 50) (b0 61) (b0 62) (fun i => [(b0 7), (b0 4), (b0 1)].getD i 0) (fun i => [(b0 8), (b0 5), (b0 2)].getD i 0) (fun i => [(b0 9), (b0 6), (b0 3)].getD i 0) (b0 32) (b0 33) (b0 34) (b0 35) (b0 36) (b0 37) (b0 38) (b0 39) (b0 40) q1 (b1 0) (b1 1) (b1 2) (b1 3) (b1 4) (b1 5) (b1 6) (b1 7) (b1 8) (b1 9) (b1 10) (b1 11) q2 q3 hL hst0 hx hb hml hown hts hX9 hbl hK hX hN hend (L + 1) 0 1000 50000 H locs ls (Nat.zero_le L) (by omega) (by omega) (by omega) hI hl
