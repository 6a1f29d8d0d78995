theorem hok_rot2 {D : va_G} {A : Nat → Prop} {H0 H : Heap} {locs : List Loc} {x y : Nat × va_E} {t w : va_W} (hH : HOK D A H0 ((x :: y :: t) ++ w) H locs) : HOK D A H0 (x :: y :: (w ++ t)) H locs := by
  obtain ⟨a1, a2⟩ := cw_perm hH.1 hH.2.1 (ws' := x :: y :: (w ++ t)) (List.Perm.cons x (List.Perm.cons y List.perm_append_comm))
  exact ⟨a1, a2, hH.2.2⟩
