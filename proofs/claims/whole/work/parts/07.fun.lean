def fX9_lengthBetween (t_lengths : Nat → Int32) (x1 : Int32) (x2 : Int32) : Option (Int32) := (if inR ((x1 * (12 : Int32)) + x2) 144 then some (t_lengths ((x1 * (12 : Int32)) + x2).toNatClampNeg) else none)
def fX9_allUnits (t_units : Int32) : Option (Int32) := some (((1 : Int32) <<< (t_units &&& 31)) - (1 : Int32))
def fX9_populationOf_L4 (t_population : Nat → Int32) (t_units : Int32) (x1 : Int32) : Nat → (Int32 → Option (Int32)) → Int32 → Int32 → Option (Int32)
  | 0, _, _, _ => none
  | n + 1, kf, y4_2, y4_3 => (if t_units ≤ y4_3 then kf y4_2 else (if ((x1 >>> (y4_3 &&& 31)) &&& (1 : Int32)) = (0 : Int32) then fX9_populationOf_L4 t_population t_units x1 n kf y4_2 (y4_3 + (1 : Int32)) else (if inR y4_3 12 then fX9_populationOf_L4 t_population t_units x1 n kf (y4_2 + (t_population y4_3.toNatClampNeg)) (y4_3 + (1 : Int32)) else none)))
def fX9_populationOf (t_population : Nat → Int32) (t_units : Int32) (x1 : Int32) : Option (Int32) := fX9_populationOf_L4 t_population t_units x1 1000000 (fun z4_2 => some z4_2) (0 : Int32) (0 : Int32)
def fX9_reach_L19 (t_neighbors : Nat → Int32) (t_units : Int32) (x1 : Int32) (y19_3 : Int32) (y19_4 : Int32) : Nat → (Int32 → Option (Int32)) → Int32 → Int32 → Option (Int32)
  | 0, _, _, _ => none
  | n + 1, kf, y19_2, y19_5 => (if t_units ≤ y19_5 then kf y19_2 else (if ((y19_2 >>> (y19_5 &&& 31)) &&& (1 : Int32)) = (0 : Int32) then fX9_reach_L19 t_neighbors t_units x1 y19_3 y19_4 n kf y19_2 (y19_5 + (1 : Int32)) else (if inR y19_5 12 then fX9_reach_L19 t_neighbors t_units x1 y19_3 y19_4 n kf (y19_2 ||| ((t_neighbors y19_5.toNatClampNeg) &&& x1)) (y19_5 + (1 : Int32)) else none)))
def fX9_reach_L7 (t_neighbors : Nat → Int32) (t_units : Int32) (x1 : Int32) : Nat → (Int32 → Option (Int32)) → Int32 → Int32 → Option (Int32)
  | 0, _, _, _ => none
  | n + 1, kf, y7_2, y7_3 => (if (12 : Int32) ≤ y7_3 then kf y7_2 else fX9_reach_L19 t_neighbors t_units x1 y7_3 y7_2 1000000 (fun z19_2 => (if z19_2 = y7_2 then kf z19_2 else fX9_reach_L7 t_neighbors t_units x1 n kf z19_2 (y7_3 + (1 : Int32)))) y7_2 (0 : Int32))
def fX9_reach (t_neighbors : Nat → Int32) (t_units : Int32) (x1 : Int32) : Option (Int32) := fX9_reach_L7 t_neighbors t_units x1 1000000 (fun z7_2 => some z7_2) (x1 &&& (-x1)) (0 : Int32)
def fX9_isContiguous (t_neighbors : Nat → Int32) (t_units : Int32) (x1 : Int32) : Option (Int32) := (fX9_reach t_neighbors t_units x1).bind (fun q1 => (if q1 = x1 then some (1 : Int32) else some (0 : Int32)))
