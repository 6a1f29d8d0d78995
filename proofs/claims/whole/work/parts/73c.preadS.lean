/-! a statement, by the class -/
section TS
variable {text : Nat → Int32} {C : Nat → Nat} {l i : Nat}
def CS (o : Option Stm) (ok f ic kd sec thd : Int32) : Prop := match o with
  | none => ok = 0
  | some (k, a, b, c, co) => ok = 1 ∧ kd = nI k ∧ f = nI a ∧ sec = nI b ∧ (k = 117 → thd = c ∧ ic = co ∧ (co = 0 ∨ co = 1)) ∧ (k = 98 → thd = c)
theorem unit_k {C : Nat → Nat} {l i : Nat} {k a b : Nat} {c co : Int32} (h : (unitP C l i).2 = some (k, a, b, c, co)) : k = 117 := by
  unfold unitP at h
  cases h1 : numP C l i with
  | none => rw [h1] at h; cases h
  | some p =>
    obtain ⟨j, a1⟩ := p
    rw [h1] at h
    dsimp only at h
    cases h2 : chP C l j 47 with
    | false => rw [h2, if_neg ff] at h; cases h
    | true =>
      rw [h2, if_pos rfl] at h
      cases h3 : numP C l (j + 1) with
      | none => rw [h3] at h; cases h
      | some p =>
        obtain ⟨m, b1⟩ := p
        rw [h3] at h
        dsimp only at h
        cases h4 : chP C l m 64 with
        | false => rw [h4, if_neg ff] at h; cases h; rfl
        | true =>
          rw [h4, if_pos rfl] at h
          cases h5 : dgP C l (m + 1) with
          | false => rw [h5, if_neg ff] at h; cases h
          | true =>
            rw [h5, if_pos rfl] at h
            cases h6 : chP C l (m + 1 + 1) 33 with
            | false => rw [h6, if_neg ff] at h; cases h; rfl
            | true => rw [h6, if_pos rfl] at h; cases h; rfl
theorem bord_k {C : Nat → Nat} {l i : Nat} {k a b : Nat} {c co : Int32} (h : (bordP C l i).2 = some (k, a, b, c, co)) : k = 98 := by
  unfold bordP at h
  cases h1 : numP C l i with
  | none => rw [h1] at h; cases h
  | some p =>
    obtain ⟨j, a1⟩ := p
    rw [h1] at h
    dsimp only at h
    cases h2 : chP C l j 45 with
    | false => rw [h2, if_neg ff] at h; cases h
    | true =>
      rw [h2, if_pos rfl] at h
      cases h3 : numP C l (j + 1) with
      | none => rw [h3] at h; cases h
      | some p =>
        obtain ⟨m, b1⟩ := p
        rw [h3] at h
        dsimp only at h
        cases h4 : chP C l m 58 with
        | false => rw [h4, if_neg ff] at h; cases h
        | true =>
          rw [h4, if_pos rfl] at h
          cases h5 : dgP C l (m + 1) with
          | false => rw [h5, if_neg ff] at h; cases h
          | true => rw [h5, if_pos rfl] at h; cases h; rfl
theorem out_k {C : Nat → Nat} {l i : Nat} {k a b : Nat} {c co : Int32} (h : (outP C l i).2 = some (k, a, b, c, co)) : k = 111 := by
  unfold outP at h
  cases h1 : numP C l i with
  | none => rw [h1] at h; cases h
  | some p =>
    obtain ⟨j, a1⟩ := p
    rw [h1] at h
    dsimp only at h
    cases h2 : chP C l j 58 with
    | false => rw [h2, if_neg ff] at h; cases h
    | true =>
      rw [h2, if_pos rfl] at h
      cases h5 : dgP C l (j + 1) with
      | false => rw [h5, if_neg ff] at h; cases h
      | true => rw [h5, if_pos rfl] at h; cases h; rfl
theorem pX8_readStatement (hT : Txt text C l) (hi : i ≤ l) (f0 ic0 nm0 sec0 thd0 : Int32) : ∃ ok f ic kd nm sec thd, fX8_readStatement (nI i) f0 ic0 (nI l) nm0 sec0 text thd0 = some (ok, nI (stP C l i).1, f, ic, kd, nm, sec, thd) ∧ CS (stP C l i).2 ok f ic kd sec thd := by
  have hl := hT.1
  have tk : ∀ c, c < 65536 → fX8_take (nI i) (nI l) text (nI c) = some (if chP C l i c then 1 else 0, nI (if chP C l i c then i + 1 else i)) := fun c hc => pX8_take hT hi hc
  rw [fX8_readStatement]
  unfold stP
  by_cases h : i < l
  · obtain ⟨c1, c2⟩ := hT.2 i h
    rw [if_neg (nI_ge h (by omega)), if_pos ((inR_nI (by omega)).mpr (by omega)), nI_clamp (by omega), c1, show fX8_take (nI i) (nI l) text 117 = _ from tk 117 (by decide), bind_s]
    cases hu : chP C l i 117 with
    | true =>
      have b1 := chP_lt hu
      obtain ⟨ok, f, ic, nm, sec, thd, e1, e2, e3⟩ := pX8_readUnit hT (show i + 1 ≤ l by omega) f0 nm0 sec0
      rw [if_pos rfl, if_pos rfl, if_neg n10, if_pos rfl, e1, bind_s, if_pos (isB01' e3), b1.2]
      refine ⟨_, _, _, _, _, _, _, rfl, ?_⟩
      cases ho : (unitP C l (i + 1)).2 with
      | none => rw [ho] at e2; exact e2
      | some s =>
        obtain ⟨k, a, b, c, co⟩ := s
        have hk := unit_k ho
        subst hk
        rw [ho] at e2
        obtain ⟨r1, r2, r3, r4, r5, r6⟩ := e2
        exact ⟨r1, rfl, r2, r3, fun _ => ⟨r4, r5, r6⟩, fun q => absurd q (by decide)⟩
    | false =>
      rw [if_neg ff, if_neg ff, if_pos rfl, if_neg ff, show fX8_take (nI i) (nI l) text 98 = _ from tk 98 (by decide), bind_s]
      cases hb : chP C l i 98 with
      | true =>
        have b1 := chP_lt hb
        obtain ⟨ok, f, nm, sec, thd, e1, e2, e3⟩ := pX8_readBorder hT (show i + 1 ≤ l by omega) f0 nm0 sec0 thd0
        rw [if_pos rfl, if_pos rfl, if_neg n10, if_pos rfl, e1, bind_s, if_pos (isB01' e3), b1.2]
        refine ⟨_, _, _, _, _, _, _, rfl, ?_⟩
        cases ho : (bordP C l (i + 1)).2 with
        | none => rw [ho] at e2; exact e2
        | some s =>
          obtain ⟨k, a, b, c, co⟩ := s
          have hk := bord_k ho
          subst hk
          rw [ho] at e2
          obtain ⟨r1, r2, r3, r4⟩ := e2
          exact ⟨r1, rfl, r2, r3, fun q => absurd q (by decide), fun _ => r4⟩
      | false =>
        rw [if_neg ff, if_neg ff, if_pos rfl, if_neg ff, show fX8_take (nI i) (nI l) text 111 = _ from tk 111 (by decide), bind_s]
        cases hoo : chP C l i 111 with
        | true =>
          have b1 := chP_lt hoo
          obtain ⟨ok, f, nm, sec, e1, e2, e3⟩ := pX8_readOuter hT (show i + 1 ≤ l by omega) f0 nm0 sec0
          rw [if_pos rfl, if_pos rfl, if_neg n10, if_pos rfl, e1, bind_s, b1.2]
          cases ho : (outP C l (i + 1)).2 with
          | none =>
            rw [ho] at e2
            have e2 : ok = 0 := e2
            rw [if_pos e2]
            exact ⟨_, _, _, _, _, _, _, rfl, rfl⟩
          | some s =>
            obtain ⟨k, a, b, c, co⟩ := s
            have hk := out_k ho
            subst hk
            rw [ho] at e2
            obtain ⟨r1, r2, r3⟩ := e2
            rw [if_neg (by rw [r1]; exact n10)]
            exact ⟨_, _, _, _, _, _, _, rfl, rfl, rfl, r2, r3, fun q => absurd q (by decide), fun q => absurd q (by decide)⟩
        | false =>
          rw [if_neg ff, if_neg ff, if_pos rfl, if_neg ff]
          exact ⟨_, _, _, _, _, _, _, rfl, rfl⟩
  · have no : ∀ c, chP C l i c = false := fun c => decide_eq_false fun q => h q.1
    rw [if_pos (nI_le (by omega) (by omega)), show fX8_take (nI i) (nI l) text 117 = _ from tk 117 (by decide), bind_s, no 117, if_neg ff, if_neg ff, if_pos rfl, show fX8_take (nI i) (nI l) text 98 = _ from tk 98 (by decide), bind_s, no 98, if_neg ff, if_neg ff, if_pos rfl, show fX8_take (nI i) (nI l) text 111 = _ from tk 111 (by decide), bind_s, no 111, if_neg ff, if_neg ff, if_pos rfl]
    exact ⟨_, _, _, _, _, _, _, rfl, rfl⟩
end TS
