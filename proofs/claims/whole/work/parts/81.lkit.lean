/-! the law's own methods: own rows -/
/-- exceptions' classes that are told apart -/
def NCS : List (String × String) := [("java/lang/IllegalArgumentException", "java/lang/IllegalStateException"), ("java/lang/IllegalArgumentException", "java/lang/IndexOutOfBoundsException"), ("java/lang/IllegalStateException", "java/lang/IllegalArgumentException"), ("java/lang/IllegalStateException", "java/lang/IndexOutOfBoundsException"), ("java/lang/IndexOutOfBoundsException", "java/lang/IllegalArgumentException"), ("java/lang/IndexOutOfBoundsException", "java/lang/IllegalStateException"), ("java/lang/IndexOutOfBoundsException", "java/lang/UnsupportedOperationException"), ("java/lang/IndexOutOfBoundsException", "java/util/NoSuchElementException"), ("java/lang/UnsupportedOperationException", "java/lang/IllegalArgumentException"), ("java/lang/UnsupportedOperationException", "java/lang/IllegalStateException"), ("java/lang/UnsupportedOperationException", "java/lang/IndexOutOfBoundsException"), ("java/lang/UnsupportedOperationException", "java/util/NoSuchElementException"), ("java/util/NoSuchElementException", "java/lang/IllegalArgumentException"), ("java/util/NoSuchElementException", "java/lang/IllegalStateException"), ("java/util/NoSuchElementException", "java/lang/IndexOutOfBoundsException")]
def NOK (U : State) : Prop := ∀ q ∈ NCS, va_Nc q.1 q.2 U
def preL (D : va_G) (k : Nat → ClassId) (av : List Value) (ws : va_W) (sz : Nat) : Array Value → State → Prop := va_Pc av (fun U => ((U.heap.size = sz ∧ va_P D vwCl ws U.heap ∧ KOK D k U ∧ va_D (fun _ => True) ws) ∧ XOK (va_A ws sz) U U.heap) ∧ NOK U)
theorem prl_blind {D : va_G} {k : Nat → ClassId} {av : List Value} {ws : va_W} {sz : Nat} : FrameBlind (preL D k av ws sz) := fun a U g mk q => by
  obtain ⟨q0, q1, qN⟩ := q
  obtain ⟨r0, r1⟩ := prx_blind (D := D) (k := k) (av := av) (ws := ws) (sz := sz) a U g mk ⟨q0, q1⟩
  exact ⟨r0, r1, fun z hz => va_Nc.moved (u := U) (U := U.calling g mk a) (Vm.Alike.refl U.vm) (qN z hz)⟩
theorem prl_at {D : va_G} {k : Nat → ClassId} {av : List Value} {ws : va_W} {s U : State} {H : Heap} {locs : List Loc} (hU : U.heap = H) (hW : s.WarmedH U.vm) (hP : va_P D vwCl ws H) (hK : KOK D k s) {A : Nat → Prop} (hD : va_D A ws) (hS : va_S A s.heap H locs) (hX : XOK A s s.heap) (hN : NOK s) (hF : ∀ q, va_A ws H.size q → A q) : preL D k av ws H.size av.toArray U :=
  ⟨rfl, (prx_at (av := av) hU hW hP hK hD hS hX hF).2, fun z hz => va_Nc.moved hW.alike (hN z hz)⟩
/-- the code that a call of the law's answers -/
def lcode {α : Type} (names : List String) (r : String ⊕ α) : Int32 := match r with
  | .inl s => nI (cdN names s)
  | .inr _ => 0
def loutI (r : String ⊕ Int32) (out : Nat → Int64) : Nat → Int64 := match r with
  | .inl _ => out
  | .inr v => vp_updL out 0 v.toInt64
def loutL (r : String ⊕ Int64) (out : Nat → Int64) : Nat → Int64 := match r with
  | .inl _ => out
  | .inr v => vp_updL out 0 v
def loutF (r : String ⊕ UInt32) (out : Nat → UInt64) : Nat → UInt64 := match r with
  | .inl _ => out
  | .inr v => vf_upd out 0 (FP.f2d v)
theorem cdN_mem {s : String} : ∀ {names : List String}, cdN names s ≠ 0 → s ∈ names
  | [], h => absurd rfl h
  | a :: l, h => by
    by_cases e : s = a
    · exact List.mem_cons.mpr (Or.inl e)
    · refine List.mem_cons.mpr (Or.inr (cdN_mem fun q => h ?_))
      rw [cdN, if_neg e, if_pos q]
theorem Met_ofWH {l : Launch} {y : MethodName} {ws ws' : List Cond} {rm : Room} {Pc : Array Value → State → Prop} {Qc : Array Value → State → Outcome → State → Prop} {mc ms : Nat} {free : Addr → Prop} {cc : ByteArray} {maxL : Nat} {ret : Option FieldType} {hh : List (Nat × Nat × Nat × Nat)}
    (hy : plainName y.cls = true) (hw : ws = Cond.codeWith y cc maxL ret hh :: ws')
    (body : ∀ p e s m args below meth c s₁, BodyLoose p l y (headSpec ws rm) cc maxL ret e s m args below meth c s₁ → c.maxLocals = maxL → Pc args s →
      W p l e (headSpec ws rm).room s m args below meth c s.heap [] 0 0 (MQ below Qc args s mc ms free) (entryFrame m args maxL)) : Met l y ws rm Pc Qc mc ms free := by
  refine MetFree.of_bodyS (code := cc) (maxLocals := maxL) (ret := ret) hy ?_ ?_
  · intro args s m h hn
    obtain ⟨m9, meth, c, hn9, h1, h2, h3, h4, -, h5, h6, -⟩ := Cond.codeWith_spec (atoms_spec (ws := ws) h _ (by rw [hw]; exact List.mem_cons_self))
    cases hn.symm.trans hn9
    exact ⟨meth, c, h1, h2, h3, h4, h5, h6⟩
  · intro p e s m args below meth c s₁ B hml hP _
    have hh0 : s₁.heap = s.heap := by rw [B.state]; rfl
    obtain ⟨t, a1, o, b1, b2, b3⟩ := body p e s m args below meth c s₁ B hml hP s₁ hh0 (Stand.of_body B)
    exact ⟨t, o, a1, b1, b2, ⟨b3.1, b3.2⟩⟩
section LX
variable {p : Program} {l : Launch} {e : Env} {R : Room} {s : State} {m : MethodId} {args : Array Value} {below : List Frame} {meth : Method} {c : Code} {H : Heap} {locs : List Loc} {cells slots : Nat} {Q : State → Prop}
variable {cc : ByteArray} {pc nL : Nat} {ls : Array Slot} {rest st0 : List Value} {D : va_G} {A : Nat → Prop} {a : Nat} {k : Nat → ClassId} {ws : va_W}
variable {own : String}
theorem gb_put {pre wc w1 : va_W} {H1 : Heap} {locs1 : List Loc} {t : State} (hH : HOK D A s.heap (pre ++ wc) H locs) (hF : ∀ q, va_A wc H.size q → A q) (ht : t.heap = H1) (hB : bM D k wc w1 H.size () t) (hk : ∀ q : Nat, q < H.size → ¬ va_A wc H.size q → H1[q]? = H[q]?) (hS : va_S A s.heap H1 locs1) : HOK D A s.heap (pre ++ w1) H1 locs1 := by
  obtain ⟨hP1, -, hD1⟩ := hB
  rw [ht] at hP1
  obtain ⟨a1, a2⟩ := blk_join hH.1 hH.2.1 hF hk hP1 hD1
  exact ⟨a1, a2, hS⟩
theorem gbx_Vi {index : Nat} {y : MethodName} {bytes : ByteArray} {maxL n ci mc ms : Nat} {ret : Option FieldType} {rm : Room} {b : Addr} {As : List Value} {pre wc w1 : va_W} {r : String ⊕ Int32} {cq : vw_C} {fs : List Value}
    {Ts : List Cond} (hTs : ∀ w, w ∈ Ts ↔ w ∈ uT) (S : CallFix p m c cc nL s args uT own) (hM : vx_Met l y (.code y bytes maxL ret :: Ts) rm (preX D k (.ref b :: As) wc H.size) (postIX D k r wc w1 H.size) (xcM D k r wc w1 H.size) mc ms (va_A wc H.size)) (h1 : .methodLink own index y ∈ uT) (h2 : .instanceMethod y ∈ uT) (h3 : .selects cq.1 y y ∈ uT) (h4 : .initialized cq.1 ∈ uT) (h5 : .code y bytes maxL ret ∈ uT) (hd : y.cls = cq.1 ∧ y.cls ≠ "java/lang/invoke/MethodHandle" ∧ y.cls ≠ "java/lang/invoke/VarHandle" ∧ (parseMethodDescriptor y.desc).map (fun d => d.parameters.length) = some n) (hR : rm.frames + 1 ≤ R.frames ∧ 8 + (maxL + 11) + rm.locals ≤ R.locals) (hrc : rm.cells = mc ∧ rm.slots = ms)
    (hK : KOK D k s) (hH : HOK D A s.heap (pre ++ wc) H locs) (hA : ∀ q, s.heap.size ≤ q → A q) (hX : XOK A s s.heap) (hci : vwCl[ci]? = some cq) (hrv : wc[0]? = some (b, .inr (ci, fs))) (hst : st0 = As.reverse ++ .ref b :: rest) (hn : As.length = n) (hls : ls.size = nL) (hrm : (rest.map fun v => v.category).sum ≤ 8) (hdg : decode cc pc = .ok (.invokevirtual index, 3)) (hf : cells + mc ≤ R.cells ∧ slots + ms ≤ R.slots)
    (kx : ∀ (E : String) (q9 : Addr) (ce : Cell) (H : Heap) (locs : List Loc), r = .inl E → HOK D A s.heap (pre ++ w1) H locs → H[q9]? = some ce → ce.vm = .none → s.vm.findClass E = some ce.cls → vx_W p l e R s m args below meth c H locs (cells + mc) (slots + ms) Q (F0 m pc ls rest) q9)
    (kk : ∀ (x : Int32) (H : Heap) (locs : List Loc), r = .inr x → HOK D A s.heap (pre ++ w1) H locs → W p l e R s m args below meth c H locs (cells + mc) (slots + ms) Q (F0 m (pc + 3) ls (.int x :: rest))) : W p l e R s m args below meth c H locs cells slots Q (F0 m pc ls st0) := by
  have hPc : va_P D vwCl wc H := cw_P hH.1 (fun x hx => List.mem_append_right _ hx)
  have hDc := blk_right hH.2.1
  have hFc := blk_free hDc hA hH.2.2.1
  refine vx_calli (vx_runV (As := As) (rest := rest) S hM (cwV n S.2.2.2.2 (gInV hTs h1 h2 h3 h4 h5) rfl hrc.1 hrc.2 hd hR) ⟨prx_blind, va_recv hK hPc hci hrv, fun U hU hW => prx_at hU hW hPc hK hDc hH.2.2 hX hFc⟩ rfl hn hls hst (lv_room hrm) hdg hf) hH.2.2 (fun q _ h => hFc q h) hFc (fun q _ h => hFc q h) (fun E ce q9 u t H1 locs1 ht hvm hw hB hz1 hk1 hS e1 e2 e3 => ?_) (fun x u t H1 locs1 ht hvm hw hB hz1 hk1 hS => ?_)
  · exact kx E q9 ce H1 locs1 hB.1 (gb_put hH hFc ht hB.2 hk1 hS) e1 e2 e3
  · exact kk x H1 locs1 hw (gb_put hH hFc ht hB hk1 hS)
theorem gbx_Vl {index : Nat} {y : MethodName} {bytes : ByteArray} {maxL n ci mc ms : Nat} {ret : Option FieldType} {rm : Room} {b : Addr} {As : List Value} {pre wc w1 : va_W} {r : String ⊕ Int64} {cq : vw_C} {fs : List Value}
    {Ts : List Cond} (hTs : ∀ w, w ∈ Ts ↔ w ∈ uT) (S : CallFix p m c cc nL s args uT own) (hM : vx_Met l y (.code y bytes maxL ret :: Ts) rm (preX D k (.ref b :: As) wc H.size) (postLX D k r wc w1 H.size) (xcM D k r wc w1 H.size) mc ms (va_A wc H.size)) (h1 : .methodLink own index y ∈ uT) (h2 : .instanceMethod y ∈ uT) (h3 : .selects cq.1 y y ∈ uT) (h4 : .initialized cq.1 ∈ uT) (h5 : .code y bytes maxL ret ∈ uT) (hd : y.cls = cq.1 ∧ y.cls ≠ "java/lang/invoke/MethodHandle" ∧ y.cls ≠ "java/lang/invoke/VarHandle" ∧ (parseMethodDescriptor y.desc).map (fun d => d.parameters.length) = some n) (hR : rm.frames + 1 ≤ R.frames ∧ 8 + (maxL + 11) + rm.locals ≤ R.locals) (hrc : rm.cells = mc ∧ rm.slots = ms)
    (hK : KOK D k s) (hH : HOK D A s.heap (pre ++ wc) H locs) (hA : ∀ q, s.heap.size ≤ q → A q) (hX : XOK A s s.heap) (hci : vwCl[ci]? = some cq) (hrv : wc[0]? = some (b, .inr (ci, fs))) (hst : st0 = As.reverse ++ .ref b :: rest) (hn : As.length = n) (hls : ls.size = nL) (hrm : (rest.map fun v => v.category).sum ≤ 8) (hdg : decode cc pc = .ok (.invokevirtual index, 3)) (hf : cells + mc ≤ R.cells ∧ slots + ms ≤ R.slots)
    (kx : ∀ (E : String) (q9 : Addr) (ce : Cell) (H : Heap) (locs : List Loc), r = .inl E → HOK D A s.heap (pre ++ w1) H locs → H[q9]? = some ce → ce.vm = .none → s.vm.findClass E = some ce.cls → vx_W p l e R s m args below meth c H locs (cells + mc) (slots + ms) Q (F0 m pc ls rest) q9)
    (kk : ∀ (x : Int64) (H : Heap) (locs : List Loc), r = .inr x → HOK D A s.heap (pre ++ w1) H locs → W p l e R s m args below meth c H locs (cells + mc) (slots + ms) Q (F0 m (pc + 3) ls (.long x :: rest))) : W p l e R s m args below meth c H locs cells slots Q (F0 m pc ls st0) := by
  have hPc : va_P D vwCl wc H := cw_P hH.1 (fun x hx => List.mem_append_right _ hx)
  have hDc := blk_right hH.2.1
  have hFc := blk_free hDc hA hH.2.2.1
  refine vx_calll (vx_runV (As := As) (rest := rest) S hM (cwV n S.2.2.2.2 (gInV hTs h1 h2 h3 h4 h5) rfl hrc.1 hrc.2 hd hR) ⟨prx_blind, va_recv hK hPc hci hrv, fun U hU hW => prx_at hU hW hPc hK hDc hH.2.2 hX hFc⟩ rfl hn hls hst (lv_room hrm) hdg hf) hH.2.2 (fun q _ h => hFc q h) hFc (fun q _ h => hFc q h) (fun E ce q9 u t H1 locs1 ht hvm hw hB hz1 hk1 hS e1 e2 e3 => ?_) (fun x u t H1 locs1 ht hvm hw hB hz1 hk1 hS => ?_)
  · exact kx E q9 ce H1 locs1 hB.1 (gb_put hH hFc ht hB.2 hk1 hS) e1 e2 e3
  · exact kk x H1 locs1 hw (gb_put hH hFc ht hB hk1 hS)
theorem gbx_Vf {index : Nat} {y : MethodName} {bytes : ByteArray} {maxL n ci mc ms : Nat} {ret : Option FieldType} {rm : Room} {b : Addr} {As : List Value} {pre wc w1 : va_W} {r : String ⊕ UInt32} {cq : vw_C} {fs : List Value}
    {Ts : List Cond} (hTs : ∀ w, w ∈ Ts ↔ w ∈ uT) (S : CallFix p m c cc nL s args uT own) (hM : vx_Met l y (.code y bytes maxL ret :: Ts) rm (preX D k (.ref b :: As) wc H.size) (postFX D k r wc w1 H.size) (xcM D k r wc w1 H.size) mc ms (va_A wc H.size)) (h1 : .methodLink own index y ∈ uT) (h2 : .instanceMethod y ∈ uT) (h3 : .selects cq.1 y y ∈ uT) (h4 : .initialized cq.1 ∈ uT) (h5 : .code y bytes maxL ret ∈ uT) (hd : y.cls = cq.1 ∧ y.cls ≠ "java/lang/invoke/MethodHandle" ∧ y.cls ≠ "java/lang/invoke/VarHandle" ∧ (parseMethodDescriptor y.desc).map (fun d => d.parameters.length) = some n) (hR : rm.frames + 1 ≤ R.frames ∧ 8 + (maxL + 11) + rm.locals ≤ R.locals) (hrc : rm.cells = mc ∧ rm.slots = ms)
    (hK : KOK D k s) (hH : HOK D A s.heap (pre ++ wc) H locs) (hA : ∀ q, s.heap.size ≤ q → A q) (hX : XOK A s s.heap) (hci : vwCl[ci]? = some cq) (hrv : wc[0]? = some (b, .inr (ci, fs))) (hst : st0 = As.reverse ++ .ref b :: rest) (hn : As.length = n) (hls : ls.size = nL) (hrm : (rest.map fun v => v.category).sum ≤ 8) (hdg : decode cc pc = .ok (.invokevirtual index, 3)) (hf : cells + mc ≤ R.cells ∧ slots + ms ≤ R.slots)
    (kx : ∀ (E : String) (q9 : Addr) (ce : Cell) (H : Heap) (locs : List Loc), r = .inl E → HOK D A s.heap (pre ++ w1) H locs → H[q9]? = some ce → ce.vm = .none → s.vm.findClass E = some ce.cls → vx_W p l e R s m args below meth c H locs (cells + mc) (slots + ms) Q (F0 m pc ls rest) q9)
    (kk : ∀ (x : UInt32) (H : Heap) (locs : List Loc), r = .inr x → HOK D A s.heap (pre ++ w1) H locs → W p l e R s m args below meth c H locs (cells + mc) (slots + ms) Q (F0 m (pc + 3) ls (.float x :: rest))) : W p l e R s m args below meth c H locs cells slots Q (F0 m pc ls st0) := by
  have hPc : va_P D vwCl wc H := cw_P hH.1 (fun x hx => List.mem_append_right _ hx)
  have hDc := blk_right hH.2.1
  have hFc := blk_free hDc hA hH.2.2.1
  refine vx_callf (vx_runV (As := As) (rest := rest) S hM (cwV n S.2.2.2.2 (gInV hTs h1 h2 h3 h4 h5) rfl hrc.1 hrc.2 hd hR) ⟨prx_blind, va_recv hK hPc hci hrv, fun U hU hW => prx_at hU hW hPc hK hDc hH.2.2 hX hFc⟩ rfl hn hls hst (lv_room hrm) hdg hf) hH.2.2 (fun q _ h => hFc q h) hFc (fun q _ h => hFc q h) (fun E ce q9 u t H1 locs1 ht hvm hw hB hz1 hk1 hS e1 e2 e3 => ?_) (fun x u t H1 locs1 ht hvm hw hB hz1 hk1 hS => ?_)
  · exact kx E q9 ce H1 locs1 hB.1 (gb_put hH hFc ht hB.2 hk1 hS) e1 e2 e3
  · exact kk x H1 locs1 hw (gb_put hH hFc ht hB hk1 hS)
theorem gk_last (hx : p.tables.exec = Jvm.exec) (hb : c.code = cc) (hK : KOK D k s) (hH : HOK D A s.heap ws H locs) (q0 : Nat) {n : Nat} {f : Nat → Int64} (ha : ws[q0]? = some (a, .inl (k 6, n, .inr (.inl f)))) {i : Int32} {x : Int64} (hin : vp_in i n) (hdg : decode cc pc = .ok (.lastore, 1)) (ws' : va_W) (hw : ws.set q0 (a, .inl (k 6, n, .inr (.inl (vp_updL f i.toNatClampNeg x)))) = ws')
    (kk : ∀ (H : Heap) (locs : List Loc), HOK D A s.heap ws' H locs → W p l e R s m args below meth c H locs cells slots Q (F0 m (pc + 1) ls rest)) : W p l e R s m args below meth c H locs cells slots Q (F0 m pc ls (.long x :: .int i :: .ref a :: rest)) := by
  subst hw
  exact va_last hx hb hK hH.1 hH.2.1 hH.2.2 q0 6 ha rfl hin hdg (fun H1 locs1 h1 h2 h3 => kk H1 locs1 ⟨h1, h2, h3⟩)
theorem gk_dast (hx : p.tables.exec = Jvm.exec) (hb : c.code = cc) (hK : KOK D k s) (hH : HOK D A s.heap ws H locs) (q0 : Nat) {n : Nat} {f : Nat → UInt64} (ha : ws[q0]? = some (a, .inl (k 7, n, .inr (.inr (.inr (.inl f)))))) {i : Int32} {x : UInt64} (hin : vp_in i n) (hdg : decode cc pc = .ok (.dastore, 1)) (ws' : va_W) (hw : ws.set q0 (a, .inl (k 7, n, .inr (.inr (.inr (.inl (vf_upd f i.toNatClampNeg x)))))) = ws')
    (kk : ∀ (H : Heap) (locs : List Loc), HOK D A s.heap ws' H locs → W p l e R s m args below meth c H locs cells slots Q (F0 m (pc + 1) ls rest)) : W p l e R s m args below meth c H locs cells slots Q (F0 m pc ls (.double x :: .int i :: .ref a :: rest)) := by
  subst hw
  exact va_dast hx hb hK hH.1 hH.2.1 hH.2.2 q0 7 ha rfl hin hdg (fun H1 locs1 h1 h2 h3 => kk H1 locs1 ⟨h1, h2, h3⟩)
/-- a thrown thing is caught by one of the rows of the table -/
theorem gl_catch {E : String} {ce : Cell} {q : Addr} {hh : List (Nat × Nat × Nat × Nat)} (htab : c.exceptionTable.toList = tableOf hh) (hown : s.vm.findClass RL = some m.cls) (hts : ∀ w ∈ uT, w.before args s = true) (hX : XOK A s s.heap) (hN : NOK s) (hpre : List (Nat × Nat × Nat × Nat)) (x : Nat × Nat × Nat × Nat) (hsuf : List (Nat × Nat × Nat × Nat)) (hsp : hh = hpre ++ x :: hsuf)
    (hp : ∀ i : Nat, i < hpre.length → ∃ (z : Nat × Nat × Nat × Nat) (nm : String), hpre[i]? = some z ∧ z.2.2.2 ≠ 0 ∧ .classLink RL z.2.2.2 nm ∈ uT ∧ (E, nm) ∈ NCS) (hcov : covers ⟨x.1, x.2.1, x.2.2.1, x.2.2.2⟩ pc = true) (h0 : x.2.2.2 ≠ 0) (hcl : .classLink RL x.2.2.2 E ∈ uT) (hca : Cond.castable E E ∈ XW) (h1 : H[q]? = some ce) (h2 : ce.vm = .none) (h3 : s.vm.findClass E = some ce.cls)
    (kk : W p l e R s m args below meth c H locs cells slots Q (F0 m x.2.2.1 ls [.ref q])) : vx_W p l e R s m args below meth c H locs cells slots Q (F0 m pc ls rest) q := by
  refine vx_catch (name := E) hown (tableOf hpre) ⟨x.1, x.2.1, x.2.2.1, x.2.2.2⟩ (tableOf hsuf) (by rw [htab, hsp]; unfold tableOf; rw [List.map_append, List.map_cons]) (fun z hz => ?_) hcov h0 (hts _ hcl) (va_Nw.use rfl (hX.2.2.1 _ hca)) h1 h2 h3 kk
  unfold tableOf at hz
  obtain ⟨y, hy, rfl⟩ := List.mem_map.mp hz
  obtain ⟨i, hi⟩ := List.getElem?_of_mem hy
  obtain ⟨z, nm, q1, q2, q3, q4⟩ := hp i (List.getElem?_eq_some_iff.mp hi).1
  cases hi.symm.trans q1
  exact Or.inr ⟨q2, nm, hts _ q3, hN _ q4⟩
theorem gInSW {Ts : List Cond} (hTs : ∀ w, w ∈ Ts ↔ w ∈ uT) {own : String} {idx : Nat} {y : MethodName} {c' : Cond} (h1 : .methodLink own idx y ∈ uT) (h2 : .static y ∈ uT) (h4 : .initialized y.cls ∈ uT) (h5 : c' ∈ uT) : GoodIn uT (va_wsS own idx y (c' :: Ts)) := gInS hTs h1 h2 h4 h5
/-- a call of a method of the law's own -/
theorem gcl_Si {index : Nat} {y : MethodName} {bytes : ByteArray} {maxL n mc ms : Nat} {ret : Option FieldType} {hh : List (Nat × Nat × Nat × Nat)} {rm : Room} {As : List Value} {wc w1 ws' : va_W} {isC : List Nat} {r : Int32}
    {Ts : List Cond} (hTs : ∀ w, w ∈ Ts ↔ w ∈ uT) (S : CallFix p m c cc nL s args uT own) (hM : Met l y (.codeWith y bytes maxL ret hh :: Ts) rm (preL D k As wc H.size) (postI D k r wc w1 H.size) mc ms (va_A wc H.size)) (h1 : .methodLink own index y ∈ uT) (h2 : .static y ∈ uT) (h4 : .initialized y.cls ∈ uT) (h5 : .codeWith y bytes maxL ret hh ∈ uT) (hd : y.cls ≠ "java/lang/invoke/MethodHandle" ∧ y.cls ≠ "java/lang/invoke/VarHandle" ∧ (parseMethodDescriptor y.desc).map (fun d => d.parameters.length) = some n) (hR : rm.frames + 1 ≤ R.frames ∧ 8 + (maxL + 11) + rm.locals ≤ R.locals) (hrc : rm.cells = mc ∧ rm.slots = ms)
    (hK : KOK D k s) (hH : HOK D A s.heap ws H locs) (hA : ∀ q, s.heap.size ≤ q → A q) (hX : XOK A s s.heap) (hN : NOK s) (hC : CutOK ws wc w1 ws' isC) (hst : st0 = As.reverse ++ rest) (hn : As.length = n) (hls : ls.size = nL) (hrm : (rest.map fun v => v.category).sum ≤ 8) (hdg : decode cc pc = .ok (.invokestatic index, 3)) (hf : cells + mc ≤ R.cells ∧ slots + ms ≤ R.slots)
    (kk : ∀ (H : Heap) (locs : List Loc), HOK D A s.heap ws' H locs → W p l e R s m args below meth c H locs (cells + mc) (slots + ms) Q (F0 m (pc + 3) ls (.int r :: rest))) : W p l e R s m args below meth c H locs cells slots Q (F0 m pc ls st0) := by
  have hPc := gs_P hH.1 isC hC.2.1
  have hDc := hH.2.1.sub isC hC.1 hC.2.1
  have hFc := va_free (wc := wc) hH.2.1 hH.2.2 hA isC hC.2.1
  refine va_calli (vx_runSW (As := As) (rest := rest) S hM (vx_cwSW n S.2.2.2.2 (gInSW hTs h1 h2 h4 h5) rfl hrc.1 hrc.2 hd hR) ⟨prl_blind, fun U hU hW => prl_at hU hW hPc hK hDc hH.2.2 hX hN hFc⟩ rfl hn hls hst (lv_room hrm) hdg hf) hH.2.2 (fun q _ h => hFc q h) hFc (fun r1 u t H1 locs1 ht hvm hw hB hz1 hk1 hS => ?_)
  cases hw
  exact kk H1 locs1 (gc_put hH hC rfl ht hB hk1 hS)
end LX
