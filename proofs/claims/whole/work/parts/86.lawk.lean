section LW
variable {p : Program} {l : Launch} {e : Env} {R : Room} {s : State} {m : MethodId} {args : Array Value} {below : List Frame} {meth : Method} {c : Code} {H : Heap} {locs : List Loc} {cells slots : Nat} {Q : State → Prop}
variable {cc : ByteArray} {pc : Nat} {ls : Array Slot} {rest : List Value}
/-- a number as a truth value -/
theorem lv_ne0 (hx : p.tables.exec = Jvm.exec) (hb : c.code = cc) {x : Int32} (d0 : decode cc pc = .ok (.ifCond .eq 7, 3)) (d3 : decode cc (pc + 3) = .ok (.iconst 1, 1)) (d4 : decode cc (pc + 4) = .ok (.goto 4, 3)) (d7 : decode cc (pc + 7) = .ok (.iconst 0, 1)) (k : W p l e R s m args below meth c H locs cells slots Q (F0 m (pc + 8) ls (.int (if x = 0 then 0 else 1) :: rest))) : W p l e R s m args below meth c H locs cells slots Q (F0 m pc ls (.int x :: rest)) := by
  refine lv_if_eq (tgt := pc + 7) hx hb d0 (by omega) (fun h => ?_) (fun h => ?_)
  · refine lv_iconst (v := 0) hx hb d7 (by decide) ?_
    rw [if_pos h] at k
    exact k
  · refine lv_iconst (v := 1) hx hb d3 (by decide) ?_
    refine lv_goto (tgt := pc + 8) hx hb (show decode cc (pc + 3 + 1) = _ from d4) (by omega) ?_
    rw [if_neg h] at k
    exact k
end LW
theorem louI_eq (v : Int32) (out : Nat → Int64) : lg_cmp (loutI (.inr v) out (Int32.toNatClampNeg 0)) v.toInt64 = 0 := (lg_cmp_eq _ _).mpr (show vp_updL out 0 v.toInt64 (Int32.toNatClampNeg 0) = v.toInt64 from if_pos (by decide))
theorem louL_eq (v : Int64) (out : Nat → Int64) : lg_cmp (loutL (.inr v) out (Int32.toNatClampNeg 0)) v = 0 := (lg_cmp_eq _ _).mpr (show vp_updL out 0 v (Int32.toNatClampNeg 0) = v from if_pos (by decide))
