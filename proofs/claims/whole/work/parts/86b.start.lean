/-! what holds at the law's entry -/
theorem arr_prim {s : State} {args : Array Value} {ty : FieldType} (hp : ∀ C, ty ≠ .object C) (h : (Cond.arrayClass ty).before args s = true) : ∃ cA : ClassId, ArrOfT s cA ty ∧ va_RA s cA ty := by
  obtain ⟨c, k, comp, h1, h2, h3⟩ := Cond.arrayClass_spec h
  refine ⟨c, fun n z => ⟨fun q hq => (by cases hq), k, h2, comp, h3⟩, ?_⟩
  cases ty with
  | object C => exact absurd rfl (hp C)
  | _ => exact h1
theorem arr_obj {s : State} {args : Array Value} {C : String} (h : (Cond.arrayOver (.object C)).before args s = true) : ∃ cA : ClassId, ArrOfT s cA (.object C) ∧ va_RA s cA (.object C) := by
  obtain ⟨comp, c, k, h1, h2, h3, h4, h5⟩ := Cond.arrayOver_spec h
  exact ⟨c, fun n z => ⟨fun q hq => (by cases hq), k, h3, comp, h4⟩, k, comp, h3, h4, h1, h5⟩
set_option maxRecDepth 20000 in
theorem start_K {s : State} {args : Array Value} (hts : ∀ w ∈ lw_tbl, w.before args s = true) : ∃ (D : va_G) (k : Nat → ClassId), KOK D k s := by
  have hu : ∀ w ∈ uT, w.before args s = true := fun w h => hts w (List.mem_filter.mp h).1
  obtain ⟨c0, i0, h0⟩ := u_known (C := RX0) (T := TX0) (N := 9) (n := 9) hu u_ws_X0 (hu _ u_is_X0)
  obtain ⟨c1, i1, h1⟩ := u_known (C := RX1) (T := TX1) (N := 2) (n := 2) hu u_ws_X1 (hu _ u_is_X1)
  obtain ⟨c2, i2, h2⟩ := u_known (C := RX2) (T := TX2) (N := 3) (n := 3) hu u_ws_X2 (hu _ u_is_X2)
  obtain ⟨c3, i3, h3⟩ := u_known (C := RX3) (T := TX3) (N := 2) (n := 2) hu u_ws_X3 (hu _ u_is_X3)
  obtain ⟨c4, i4, h4⟩ := u_known (C := RX4) (T := TX4) (N := 2) (n := 2) hu u_ws_X4 (hu _ u_is_X4)
  obtain ⟨c5, i5, h5⟩ := u_known (C := RX5) (T := TX5) (N := 4) (n := 4) hu u_ws_X5 (hu _ u_is_X5)
  obtain ⟨c6, i6, h6⟩ := u_known (C := RX7) (T := TX7) (N := 6) (n := 6) hu u_ws_X7 (hu _ u_is_X7)
  obtain ⟨c7, i7, h7⟩ := u_known (C := RX8) (T := TX8) (N := 9) (n := 9) hu u_ws_X8 (hu _ u_is_X8)
  obtain ⟨c8, i8, h8⟩ := u_known (C := RX9) (T := TX9) (N := 12) (n := 12) hu u_ws_X9 (hu _ u_is_X9)
  obtain ⟨c9, i9, h9⟩ := u_known (C := RX10) (T := TX10) (N := 17) (n := 17) hu u_ws_X10 (hu _ u_is_X10)
  obtain ⟨c10, i10, h10⟩ := u_known (C := RX11) (T := TX11) (N := 26) (n := 26) hu u_ws_X11 (hu _ u_is_X11)
  obtain ⟨k0, a0⟩ := arr_prim (ty := .int) (fun C q => by cases q) (hu _ u_ac_int)
  obtain ⟨k1, a1⟩ := arr_prim (ty := .char) (fun C q => by cases q) (hu _ u_ac_char)
  obtain ⟨k2, a2⟩ := arr_prim (ty := .boolean) (fun C q => by cases q) (hu _ u_ac_boolean)
  obtain ⟨k3, a3⟩ := arr_prim (ty := .float) (fun C q => by cases q) (hu _ u_ac_float)
  obtain ⟨k4, a4⟩ := arr_obj (C := RX9) (hts (.arrayOver (.object RX9)) (by decide +kernel))
  obtain ⟨k5, a5⟩ := arr_obj (C := RX5) (hts (.arrayOver (.object RX5)) (by decide +kernel))
  obtain ⟨k6, a6⟩ := arr_prim (ty := .long) (fun C q => by cases q) (hu _ u_ac_long)
  obtain ⟨k7, a7⟩ := arr_prim (ty := .double) (fun C q => by cases q) (hu _ u_ac_double)
  refine ⟨(fun j => [c0, c1, c2, c3, c4, c5, c6, c7, c8, c9, c10].getD j c0, fun j => [i0, i1, i2, i3, i4, i5, i6, i7, i8, i9, i10].getD j i0), fun j => [k0, k1, k2, k3, k4, k5, k6, k7].getD j k0, fun j q hq => ?_, fun j q hq => ?_⟩
  · match j, hq with
    | 0, hq => cases hq; exact h0
    | 1, hq => cases hq; exact h1
    | 2, hq => cases hq; exact h2
    | 3, hq => cases hq; exact h3
    | 4, hq => cases hq; exact h4
    | 5, hq => cases hq; exact h5
    | 6, hq => cases hq; exact h6
    | 7, hq => cases hq; exact h7
    | 8, hq => cases hq; exact h8
    | 9, hq => cases hq; exact h9
    | 10, hq => cases hq; exact h10
    | j + 11, hq => simp [vwCl] at hq
  · match j, hq with
    | 0, hq => cases hq; exact a0
    | 1, hq => cases hq; exact a1
    | 2, hq => cases hq; exact a2
    | 3, hq => cases hq; exact a3
    | 4, hq => cases hq; exact a4
    | 5, hq => cases hq; exact a5
    | 6, hq => cases hq; exact a6
    | 7, hq => cases hq; exact a7
    | j + 8, hq => simp [tysX] at hq
theorem xs_words : ∀ q ∈ XS, q.1 = RX10 ∧ Cond.stringRef q.1 q.2.1 q.2.2 ∈ lw_tbl := by decide +kernel
theorem xw_words : ∀ w ∈ XW, w ∈ lw_tbl ∧ w.onTables = true := by decide +kernel
theorem nc_words : ∀ q ∈ NCS, Cond.not (.castable q.1 q.2) ∈ flatC (Jvm.Cond.and given_1 narrow_1) := by decide +kernel
theorem ns_words : ∀ q ∈ NSW, Cond.methodLinkNest q.1 q.2.1 q.2.2.1 q.2.2.2 ∈ lw_tbl ∧ (Cond.methodLinkNest q.1 q.2.1 q.2.2.1 q.2.2.2).onTables = true := by decide +kernel
theorem start_X {s : State} {args : Array Value} (hts : ∀ w ∈ lw_tbl, w.before args s = true) (hgv : (Jvm.Cond.and given_1 narrow_1).before args s = true) {D : va_G} {k : Nat → ClassId} (hK : KOK D k s) : XOK (fun q : Nat => s.heap.size ≤ q) s s.heap := by
  have hs := flat_of_before _ hgv
  refine ⟨vx_Zqof (hts (.laysStatic Bundle.tN "UNASSIGNED_STACK" Bundle.steD) (by decide +kernel)) (hts (.initialized Bundle.tN) (by decide +kernel)) (hs (.isRef (.static Bundle.tN "UNASSIGNED_STACK" Bundle.steD)) (by decide +kernel)) (fun a h => Nat.not_le.mpr h), vx_Zqof (hts (.laysStatic Bundle.tN "SUPPRESSED_SENTINEL" Bundle.listD) (by decide +kernel)) (hts (.initialized Bundle.tN) (by decide +kernel)) (hs (.isRef (.static Bundle.tN "SUPPRESSED_SENTINEL" Bundle.listD)) (by decide +kernel)) (fun a h => Nat.not_le.mpr h), fun w hw => va_Nw.of (xw_words w hw).2 (hts w (xw_words w hw).1), fun q hq => ?_⟩
  obtain ⟨e, hm⟩ := xs_words q hq
  have hc := (hK.1 9 _ rfl).2.1
  obtain ⟨_, _, _, a, _, _, _, _, _, hev⟩ := Cond.stringRef_spec (by rw [e]; exact hc) (hts _ hm)
  exact ⟨a, vk_R.of (hts _ hm) hev⟩
theorem start_N {s : State} {args : Array Value} (hgv : (Jvm.Cond.and given_1 narrow_1).before args s = true) : NOK s := fun q hq => va_Nc.of (flat_of_before _ hgv _ (nc_words q hq))
theorem start_C {s : State} {args : Array Value} (hts : ∀ w ∈ lw_tbl, w.before args s = true) : COK s := ⟨fun q hq => va_Nw.of (ns_words q hq).2 (hts _ (ns_words q hq).1), va_AO.of (hts (.arrayOver (.object RX9)) (by decide +kernel)), va_AO.of (hts (.arrayOver (.object RX5)) (by decide +kernel))⟩
theorem arrV_cg {c : ClassId} {n : Nat} {f g : Nat → Value} (h : ∀ j, j < n → f j = g j) : arrV c n f = arrV c n g := by
  unfold arrV
  congr 2
  funext j
  exact h j.val j.isLt
/-- an array of references, by another function that tells the same within its length -/
theorem cw_refs {D : va_G} {A : Nat → Prop} {ws : va_W} {H : Heap} {q0 a n : Nat} {cA : ClassId} {f g : Nat → Option Nat} (hP : va_P D vwCl ws H) (hD : va_D A ws) (ha : ws[q0]? = some (a, .inl (cA, n, .inr (.inr (.inr (.inr f)))))) (h : ∀ j, j < n → f j = g j) : va_P D vwCl (ws.set q0 (a, .inl (cA, n, .inr (.inr (.inr (.inr g)))))) H ∧ va_D A (ws.set q0 (a, .inl (cA, n, .inr (.inr (.inr (.inr g)))))) := by
  refine ⟨hP.set hD ha ?_ (fun _ _ => rfl), hD.set ha⟩
  have h1 := hP q0 _ ha
  have e : vp_cell cA (n, .inr (.inr (.inr (.inr f)))) = vp_cell cA (n, .inr (.inr (.inr (.inr g)))) := by
    show arrV cA n (fun j => va_rf (f j)) = arrV cA n (fun j => va_rf (g j))
    exact arrV_cg fun j hj => by rw [h j hj]
  exact h1.trans (congrArg some e)
