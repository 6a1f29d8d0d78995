/-! constructors: own rows -/
def NSW : List (String × Nat × MethodName × String) := [(RX10, 32, yX9_init, "DistrictPlanner"), (RX10, 45, yX4_init, "DistrictPlanner"), (RX10, 52, yX8_init, "DistrictPlanner"), (RX10, 59, yX3_init, "DistrictPlanner"), (RX10, 66, yX7_init, "DistrictPlanner"), (RX10, 73, yX0_init, "DistrictPlanner"), (RX10, 87, yX1_init, "DistrictPlanner"), (RX10, 98, yX5_init, "DistrictPlanner"), (RX0, 24, yX4_init, "DistrictPlanner"), (RX0, 31, yX1_init, "DistrictPlanner"), (RX2, 24, yX9_init, "DistrictPlanner"), (RX7, 11, yX4_init, "DistrictPlanner"), (RX7, 31, yX1_init, "DistrictPlanner"), (RX9, 49, yX4_init, "DistrictPlanner")]
def COK (U : State) : Prop := (∀ q ∈ NSW, va_Nw (.methodLinkNest q.1 q.2.1 q.2.2.1 q.2.2.2) U) ∧ va_AO RX9 U ∧ va_AO RX5 U
theorem COK.moved {u U : State} (hW : u.WarmedH U.vm) (h : COK u) : COK U := ⟨fun q hq => va_Nw.warmM hW (h.1 q hq), va_AO.moved hW.alike h.2.1, va_AO.moved hW.alike h.2.2⟩
theorem same_warm (U : State) (g : JFrame) (mk : MethodId) (a : Array Value) : U.WarmedH (U.calling g mk a).vm := State.WarmedH.refl U
def preN (D : va_G) (k : Nat → ClassId) (av : List Value) (ws : va_W) (sz : Nat) : Array Value → State → Prop := va_Pc av (fun U => (U.heap.size = sz ∧ va_P D vwCl ws U.heap ∧ KOK D k U ∧ va_D (fun _ => True) ws) ∧ COK U)
def postN (D : va_G) (k : Nat → ClassId) (new : (Nat → Nat) → va_W) (ws : va_W) (sz : Nat) : Array Value → State → Outcome → State → Prop := va_Qv (fun (_ : Nat → Nat) => True) (fun a t => va_P D vwCl (new a) t.heap ∧ KOK D k t ∧ va_D (va_A ws sz) (new a)) (va_A ws sz)
theorem prn_blind {D : va_G} {k : Nat → ClassId} {av : List Value} {ws : va_W} {sz : Nat} : FrameBlind (preN D k av ws sz) := fun a U g mk q => by
  obtain ⟨q0, ⟨q1, qP, qK, qD⟩, qC⟩ := q
  exact ⟨q0, ⟨q1, qP, va_K.moved (u := U) (U := U.calling g mk a) (Vm.Alike.refl U.vm) qK, qD⟩, qC.moved (same_warm U g mk a)⟩
theorem prn_at {D : va_G} {k : Nat → ClassId} {av : List Value} {ws : va_W} {s U : State} {H : Heap} (hU : U.heap = H) (hW : s.WarmedH U.vm) (hP : va_P D vwCl ws H) (hK : KOK D k s) {A : Nat → Prop} (hD : va_D A ws) (hC : COK s) : preN D k av ws H.size av.toArray U :=
  ⟨rfl, ⟨by rw [hU], by rw [hU]; exact hP, va_K.moved hW.alike hK, hD.weaken (fun _ _ _ _ => trivial)⟩, hC.moved hW⟩
theorem ra_eq {U : State} {ty : FieldType} {c1 c2 : ClassId} (h1 : va_RA U c1 ty) (h2 : va_RA U c2 ty) : c1 = c2 := by
  cases ty with
  | object C =>
    obtain ⟨_, _, _, _, _, g1⟩ := h1
    obtain ⟨_, _, _, _, _, g2⟩ := h2
    exact Option.some.inj (g1.symm.trans g2)
  | _ => exact Option.some.inj (h1.symm.trans h2)
section CX
variable {p : Program} {l : Launch} {e : Env} {R : Room} {s : State} {m : MethodId} {args : Array Value} {below : List Frame} {meth : Method} {c : Code} {H : Heap} {locs : List Loc} {cells slots : Nat} {Q : State → Prop}
variable {cc : ByteArray} {pc nL : Nat} {ls : Array Slot} {rest st0 : List Value} {D : va_G} {A : Nat → Prop} {a : Nat} {k : Nat → ClassId} {ws : va_W}
variable {own : String}
theorem gk_newa (hx : p.tables.exec = Jvm.exec) (hb : c.code = cc) (hts : ∀ w ∈ uT, w.before args s = true) {atype : ArrayType} {ty : FieldType} (hty : newarray.typeOf atype = ty) (hac : Cond.arrayClass (newarray.typeOf atype) ∈ uT) (hK : KOK D k s) (hH : HOK D A s.heap ws H locs) (hA : ∀ q, s.heap.size ≤ q → A q) (t0 : Nat) {cK : ClassId} (ht : (tysX k)[t0]? = some (cK, ty))
    {n : Int32} {N' : Nat} {a0 : vp_A} (ha : ∀ cA : ClassId, vp_cell cA a0 = arrV cA N' (fun _ => defaultValue ty)) (hn : ¬ n < 0) (hN : n.toNatClampNeg = N') (hbytes : N' * componentBytes ty ≤ 536870912) (hcells : cells + 1 ≤ R.cells) (hslots : slots + N' ≤ R.slots) (hdg : decode cc pc = .ok (.newarray atype, 2))
    (kk : ∀ (q : Nat) (H : Heap), HOK D A s.heap (ws ++ [(q, .inl (cK, a0))]) H locs → W p l e R s m args below meth c H locs (cells + 1) (slots + N') Q (F0 m (pc + 2) ls (.ref q :: rest))) : W p l e R s m args below meth c H locs cells slots Q (F0 m pc ls (.int n :: rest)) := by
  refine va_newa hx hb (hts _ hac) hty hK hH.1 hH.2.1 hH.2.2 hA ha hn hN hbytes hcells hslots hdg fun q cA H1 hK1 h1 h2 h3 => ?_
  have e8 : (tysX k ++ [(cA, ty)])[8]? = some (cA, ty) := rfl
  have hq : cA = cK := ra_eq (hK1.2 8 _ e8).2 (hK.2 t0 _ ht).2
  subst hq
  exact kk q H1 ⟨h1, h2, h3⟩
theorem gk_newq (hx : p.tables.exec = Jvm.exec) (hb : c.code = cc) (hts : ∀ w ∈ uT, w.before args s = true) {C : String} {index : Nat} (hown : s.vm.findClass own = some m.cls) (hcl : .classLink own index C ∈ uT) (hover : va_AO C s) (hK : KOK D k s) (hH : HOK D A s.heap ws H locs) (hA : ∀ q, s.heap.size ≤ q → A q) (t0 : Nat) {cK : ClassId} (ht : (tysX k)[t0]? = some (cK, .object C))
    {n : Int32} {N' : Nat} (hn : ¬ n < 0) (hN : n.toNatClampNeg = N') (hbytes : N' * 4 ≤ 536870912) (hcells : cells + 1 ≤ R.cells) (hslots : slots + N' ≤ R.slots) (hdg : decode cc pc = .ok (.anewarray index, 3))
    (kk : ∀ (q : Nat) (H : Heap), HOK D A s.heap (ws ++ [(q, .inl (cK, N', .inr (.inr (.inr (.inr (fun _ => none))))))]) H locs → W p l e R s m args below meth c H locs (cells + 1) (slots + N') Q (F0 m (pc + 3) ls (.ref q :: rest))) : W p l e R s m args below meth c H locs cells slots Q (F0 m pc ls (.int n :: rest)) := by
  refine va_newq hx hb hown (hts _ hcl) hover hK hH.1 hH.2.1 hH.2.2 hA hn hN hbytes hcells hslots hdg fun q cA H1 hK1 h1 h2 h3 => ?_
  have e8 : (tysX k ++ [(cA, .object C)])[8]? = some (cA, .object C) := rfl
  have hq : cA = cK := ra_eq (hK1.2 8 _ e8).2 (hK.2 t0 _ ht).2
  subst hq
  exact kk q H1 ⟨h1, h2, h3⟩
theorem gk_astq (hx : p.tables.exec = Jvm.exec) (hb : c.code = cc) (hK : KOK D k s) (hH : HOK D A s.heap ws H locs) (q0 t0 qk ci : Nat) {cA : ClassId} {r : vw_C} {n v : Nat} {vs : List Value} {f : Nat → Option Nat} (ha : ws[q0]? = some (a, .inl (cA, n, .inr (.inr (.inr (.inr f)))))) (ht : (tysX k)[t0]? = some (cA, .object r.1)) (hv : ws[qk]? = some (v, .inr (ci, vs))) (hc : vwCl[ci]? = some r) {i : Int32} (hin : vp_in i n) (hdg : decode cc pc = .ok (.aastore, 1)) (ws' : va_W) (hw : ws.set q0 (a, .inl (cA, n, .inr (.inr (.inr (.inr (va_up f i.toNatClampNeg (some v))))))) = ws')
    (kk : ∀ (H : Heap) (locs : List Loc), HOK D A s.heap ws' H locs → W p l e R s m args below meth c H locs cells slots Q (F0 m (pc + 1) ls rest)) : W p l e R s m args below meth c H locs cells slots Q (F0 m pc ls (.ref v :: .int i :: .ref a :: rest)) := by
  subst hw
  exact va_astq hx hb hK hH.1 hH.2.1 hH.2.2 q0 t0 qk ci ha ht hv hc hin hdg (fun H1 locs1 h1 h2 h3 => kk H1 locs1 ⟨h1, h2, h3⟩)
theorem gk_new (hx : p.tables.exec = Jvm.exec) (hb : c.code = cc) (hts : ∀ w ∈ uT, w.before args s = true) {C : String} {T : u_T} {N ci index : Nat} (hin : ∀ w ∈ u_ws C T N, w ∈ uT) {ty : Nat → FieldType} (hty : ∀ k, k < N → parseFieldDescriptor (T k).2.2.1 = some (ty k)) (hown : s.vm.findClass own = some m.cls) (hcl : .classLink own index C ∈ uT) (hinst : .instantiable C N ∈ uT) (hini : .initialized C ∈ uT) (hK : KOK D k s) (hH : HOK D A s.heap ws H locs) (hA : ∀ q, s.heap.size ≤ q → A q) (hc : vwCl[ci]? = some (C, T, N)) {fs : List Value} (hfs : ∀ j, j < N → defaultValue (ty j) = vp_V fs j) (hcells : cells + 1 ≤ R.cells) (hslots : slots + N ≤ R.slots) (hdg : decode cc pc = .ok (.new index, 3))
    (kk : ∀ (q : Nat) (H : Heap), HOK D A s.heap (ws ++ [(q, .inr (ci, fs))]) H locs → W p l e R s m args below meth c H locs (cells + 1) (slots + N) Q (F0 m (pc + 3) ls (.ref q :: rest))) : W p l e R s m args below meth c H locs cells slots Q (F0 m pc ls rest) :=
  va_new hx hb hts hin ty hty hown (hts _ hcl) (hts _ hinst) (hts _ hini) hK hH.1 hH.2.1 hH.2.2 hA hc hfs hcells hslots hdg fun q H1 h1 h2 h3 => kk q H1 ⟨h1, h2, h3⟩
theorem gk_putF (hx : p.tables.exec = Jvm.exec) (hb : c.code = cc) {C : String} {T : u_T} {N ci index : Nat} (hts : ∀ w ∈ uT, w.before args s = true) (hin : ∀ w ∈ u_ws C T N, w ∈ uT) {ty0 : Nat → FieldType} (hty : ∀ k, k < N → parseFieldDescriptor (T k).2.2.1 = some (ty0 k)) (hnm : ∀ a, a < N → ∀ b, b < N → a ≠ b → (T a).2.1 ≠ (T b).2.1) (hown : s.vm.findClass own = some m.cls) (hK : KOK D k s) (hH : HOK D A s.heap ws H locs) (q0 : Nat) {fs : List Value} (he : ws[q0]? = some (a, .inr (ci, fs))) (hc : vwCl[ci]? = some (C, T, N)) (j : Nat) (hj : j < N) (hlink : (Cond.fieldLink own index (T j).1 (T j).2.1 (T j).2.2.1) ∈ uT) (hfin : (T j).2.2.2 = true) (hinm : meth.name = "<init>") (hdecl : (T j).1 = own) {v : Value} (hn : narrow (ty0 j) v = v) (hfit : fits (ty0 j) v = true) (hl : j < fs.length) (hdg : decode cc pc = .ok (.putfield index, 3)) (ws' : va_W) (hw : ws.set q0 (a, .inr (ci, fs.set j v)) = ws')
    (kk : ∀ (H : Heap) (locs : List Loc), HOK D A s.heap ws' H locs → W p l e R s m args below meth c H locs cells slots Q (F0 m (pc + 3) ls rest)) : W p l e R s m args below meth c H locs cells slots Q (F0 m pc ls (v :: .ref a :: rest)) := by
  subst hw
  exact va_putF hx hb hts hin ty0 hty hnm hown hK hH.1 hH.2.1 hH.2.2 q0 he hc j hj (hts _ hlink) (fun _ h => h) hfin hinm hdecl (hty j hj) hn hfit hl hdg (fun H1 locs1 h1 h2 h3 => kk H1 locs1 ⟨h1, h2, h3⟩)
theorem gInI {Ts : List Cond} (hTs : ∀ w, w ∈ Ts ↔ w ∈ uT) {c' : Cond} (h5 : c' ∈ uT) : GoodIn uT (c' :: Ts) := by
  have hg : ∀ w ∈ uT, (w.onTables && w.keeps) = true ∨ ∃ ty, w = .arrayClass ty := fun w h => good_of_word (List.mem_filter.mp h).2
  intro w hw
  rcases List.mem_cons.mp hw with rfl | h
  · exact ⟨h5, hg _ h5⟩
  · exact ⟨(hTs _).mp h, hg _ ((hTs _).mp h)⟩
theorem gn_put {pre wc : va_W} {new : (Nat → Nat) → va_W} {b : Nat → Nat} {H1 : Heap} {locs1 : List Loc} {t : State} (hH : HOK D A s.heap (pre ++ wc) H locs) (hF : ∀ q, va_A wc H.size q → A q) (ht : t.heap = H1) (hB : va_P D vwCl (new b) t.heap ∧ KOK D k t ∧ va_D (va_A wc H.size) (new b)) (hk : ∀ q : Nat, q < H.size → ¬ va_A wc H.size q → H1[q]? = H[q]?) (hS : va_S A s.heap H1 locs1) : HOK D A s.heap (pre ++ new b) H1 locs1 := by
  obtain ⟨hP1, -, hD1⟩ := hB
  rw [ht] at hP1
  obtain ⟨a1, a2⟩ := blk_join hH.1 hH.2.1 hF hk hP1 hD1
  exact ⟨a1, a2, hS⟩
theorem gn_IN {index : Nat} {host : String} {y : MethodName} {bytes : ByteArray} {maxL mc ms q : Nat} {rm : Room} {pre : va_W} {en : va_E} {new : (Nat → Nat) → va_W}
    {Ts : List Cond} (hTs : ∀ w, w ∈ Ts ↔ w ∈ uT) (S : CallFix p m c cc nL s args uT own) (hM : Met l y (.code y bytes maxL none :: Ts) rm (preN D k [.ref q] [(q, en)] H.size) (postN D k new [(q, en)] H.size) mc ms (va_A [(q, en)] H.size)) (h1 : (own, index, y, host) ∈ NSW) (h2 : .instanceMethod y ∈ uT) (h4 : .initialized y.cls ∈ uT) (h5 : .code y bytes maxL none ∈ uT) (hy : y.name = "<init>") (hd : y.cls ≠ "java/lang/invoke/MethodHandle" ∧ y.cls ≠ "java/lang/invoke/VarHandle" ∧ (parseMethodDescriptor y.desc).map (fun d => d.parameters.length) = some 0) (hR : rm.frames + 1 ≤ R.frames ∧ 8 + (maxL + 11) + rm.locals ≤ R.locals) (hrc : rm.cells = mc ∧ rm.slots = ms)
    (hK : KOK D k s) (hC : COK s) (hH : HOK D A s.heap (pre ++ [(q, en)]) H locs) (hA : ∀ q, s.heap.size ≤ q → A q) (hls : ls.size = nL) (hrm : (rest.map fun v => v.category).sum ≤ 8) (hdg : decode cc pc = .ok (.invokespecial index, 3)) (hf : cells + mc ≤ R.cells ∧ slots + ms ≤ R.slots)
    (kk : ∀ (b : Nat → Nat) (H : Heap) (locs : List Loc), HOK D A s.heap (pre ++ new b) H locs → W p l e R s m args below meth c H locs (cells + mc) (slots + ms) Q (F0 m (pc + 3) ls rest)) : W p l e R s m args below meth c H locs cells slots Q (F0 m pc ls (.ref q :: rest)) := by
  have hPc : va_P D vwCl [(q, en)] H := cw_P hH.1 (fun x hx => List.mem_append_right _ hx)
  have hDc := blk_right hH.2.1
  have hFc := blk_free hDc hA hH.2.2.1
  refine va_callv (va_runIN (As := []) (rest := rest) S hM ⟨va_cnB 0 S.2.2.2.2 (gInI hTs h5) rfl hrc.1 hrc.2 (hC.1 _ h1) (S.2.2.2.2 _ h4) hd hR, hy, S.2.2.2.2 _ h2⟩ ⟨prn_blind, fun U hU hW => prn_at hU hW hPc hK hDc hC⟩ rfl rfl hls rfl (lv_room hrm) hdg hf) hH.2.2 (fun q _ h => hFc q h) hFc (fun b t H1 locs1 ht hvm hw hB hz1 hk1 hS => ?_)
  exact kk b H1 locs1 (gn_put hH hFc ht hB hk1 hS)
theorem gn_I {index : Nat} {y : MethodName} {bytes : ByteArray} {maxL mc ms q : Nat} {rm : Room} {pre : va_W} {en : va_E} {new : (Nat → Nat) → va_W}
    {Ts : List Cond} (hTs : ∀ w, w ∈ Ts ↔ w ∈ uT) (S : CallFix p m c cc nL s args uT own) (hM : Met l y (.code y bytes maxL none :: Ts) rm (preN D k [.ref q] [(q, en)] H.size) (postN D k new [(q, en)] H.size) mc ms (va_A [(q, en)] H.size)) (h1 : .methodLink own index y ∈ uT) (h2 : .instanceMethod y ∈ uT) (h4 : .initialized y.cls ∈ uT) (h5 : .code y bytes maxL none ∈ uT) (hy : y.name = "<init>") (hd : y.cls ≠ "java/lang/invoke/MethodHandle" ∧ y.cls ≠ "java/lang/invoke/VarHandle" ∧ (parseMethodDescriptor y.desc).map (fun d => d.parameters.length) = some 0) (hR : rm.frames + 1 ≤ R.frames ∧ 8 + (maxL + 11) + rm.locals ≤ R.locals) (hrc : rm.cells = mc ∧ rm.slots = ms)
    (hK : KOK D k s) (hC : COK s) (hH : HOK D A s.heap (pre ++ [(q, en)]) H locs) (hA : ∀ q, s.heap.size ≤ q → A q) (hls : ls.size = nL) (hrm : (rest.map fun v => v.category).sum ≤ 8) (hdg : decode cc pc = .ok (.invokespecial index, 3)) (hf : cells + mc ≤ R.cells ∧ slots + ms ≤ R.slots)
    (kk : ∀ (b : Nat → Nat) (H : Heap) (locs : List Loc), HOK D A s.heap (pre ++ new b) H locs → W p l e R s m args below meth c H locs (cells + mc) (slots + ms) Q (F0 m (pc + 3) ls rest)) : W p l e R s m args below meth c H locs cells slots Q (F0 m pc ls (.ref q :: rest)) := by
  have hPc : va_P D vwCl [(q, en)] H := cw_P hH.1 (fun x hx => List.mem_append_right _ hx)
  have hDc := blk_right hH.2.1
  have hFc := blk_free hDc hA hH.2.2.1
  refine va_callv (va_runI (As := []) (rest := rest) S hM (cwI 0 S.2.2.2.2 (gInI hTs h5) rfl hrc.1 hrc.2 (S.2.2.2.2 _ h4) (S.2.2.2.2 _ h1) (S.2.2.2.2 _ h2) hy hd hR) ⟨prn_blind, fun U hU hW => prn_at hU hW hPc hK hDc hC⟩ rfl rfl hls rfl (lv_room hrm) hdg hf) hH.2.2 (fun q _ h => hFc q h) hFc (fun b t H1 locs1 ht hvm hw hB hz1 hk1 hS => ?_)
  exact kk b H1 locs1 (gn_put hH hFc ht hB hk1 hS)
/-- a constructor's end -/
theorem gn_end {ws0 : va_W} {new : (Nat → Nat) → va_W} (b : Nat → Nat) (hx : p.tables.exec = Jvm.exec) (hb : c.code = cc) (hr : meth.sig.returnType = none) (hlocks : meth.locks = false) (hQ : MQ below (postN D k new ws0 s.heap.size) args s cells slots A = Q) (hK : KOK D k s) (hH : HOK D A s.heap (new b) H locs) (hA : va_A ws0 s.heap.size = A) (hdg : decode cc pc = .ok (.return_, 1)) : W p l e R s m args below meth c H locs cells slots Q (F0 m pc ls []) := by
  subst hQ; subst hA
  exact W.vret hx hb hr (fun t ht hW => ⟨⟨b, rfl, trivial, by rw [ht]; exact hH.1, va_K.moved hW.alike hK, hH.2.1⟩, hH.2.2.F ht⟩) hH.2.2.2.2 hdg
/-- the second cell comes to the front -/
theorem hok_rot {x y : Nat × va_E} {t : va_W} (hH : HOK D A s.heap (x :: (t ++ [y])) H locs) : HOK D A s.heap (x :: y :: t) H locs := by
  obtain ⟨a1, a2⟩ := cw_perm hH.1 hH.2.1 (ws' := x :: y :: t) (List.Perm.cons x (List.perm_append_comm (l₁ := [y]) (l₂ := t)))
  exact ⟨a1, a2, hH.2.2⟩
end CX
