/-! a statement, by the reference -/
section TR
variable {text : Nat → Int32} {C : Nat → Nat} {l i : Nat}
def MS (o : Option Stm) (ok lt : Int32) (nums : Nat → Int32) : Prop := match o with
  | none => ok = 0
  | some (k, a, b, c, co) => ok = 1 ∧ lt = nI k ∧ nums 0 = nI a ∧ (k = 117 → nums 1 = nI b ∧ nums 2 = c ∧ nums 3 = co) ∧ (k = 98 → nums 1 = nI b ∧ nums 2 = c) ∧ (k = 111 → nums 2 = nI b)
theorem kk0 : (0 : Int32).toNatClampNeg = 0 := by decide
theorem kk1 : (1 : Int32).toNatClampNeg = 1 := by decide
theorem kk2 : (2 : Int32).toNatClampNeg = 2 := by decide
theorem kk3 : (3 : Int32).toNatClampNeg = 3 := by decide
theorem pX11_readsStatement (hT : Txt text C l) (hi : i ≤ l) (nums : Nat → Int32) : ∃ ok lt nums', fX11_readsStatement (nI i) nums text (nI l) = some (ok, nI (stP C l i).1, lt, nums') ∧ MS (stP C l i).2 ok lt nums' := by
  have hl := hT.1
  rw [fX11_readsStatement, pX11_here hT (by omega), bind_s, kk2, kk3, nI_1]
  unfold stP
  by_cases h : i < l
  · obtain ⟨c1, c2⟩ := hT.2 i h
    have ch : ∀ c, chP C l i c = decide (C i = c) := fun c => by
      unfold chP
      by_cases e : C i = c
      · rw [decide_eq_true ⟨h, e⟩, decide_eq_true e]
      · rw [decide_eq_false (fun q => e q.2), decide_eq_false e]
    rw [if_pos h, ch, ch, ch]
    have inj : ∀ c, c < 65536 → (nI (C i) = nI c ↔ C i = c) := fun c hc => ⟨fun q => nI_inj (by omega) (by omega) q, fun q => by rw [q]⟩
    generalize hz : upd (upd nums 2 (-1)) 3 0 = z
    have z2 : z 2 = -1 := by rw [← hz, pk_un (by decide), pk_us]
    have z3 : z 3 = 0 := by rw [← hz, pk_us]
    obtain ⟨ok1, m1, e1, u1, v1⟩ := pX11_number2 hT (show i + 1 ≤ l by omega) (x := 0) (by decide) z
    have e1 : fX11_readsNumber (nI (i + 1)) z text (nI l) 0 2 = _ := e1
    by_cases k1 : C i = 117
    · rw [k1, if_pos (show nI 117 = (117 : Int32) from rfl), decide_eq_true rfl, if_pos rfl, e1, bind_s]
      unfold unitP
      cases h1 : numP C l (i + 1) with
      | none =>
        rw [h1] at v1
        dsimp only at v1 ⊢
        rw [if_pos v1]
        exact ⟨_, _, _, rfl, rfl⟩
      | some p =>
        obtain ⟨j, a⟩ := p
        have b1 := numP_le h1
        rw [h1] at v1
        dsimp only at v1 ⊢
        rw [if_neg (by rw [v1.1]; exact n10), if_neg (show ¬ nI 117 = (111 : Int32) by decide), show fX11_eats (nI j) text (nI l) 47 = _ from pX11_eats hT (by omega) (c := 47) (by decide), bind_s]
        cases h2 : chP C l j 47 with
        | false => exact ⟨_, _, _, rfl, rfl⟩
        | true =>
          have b2 := chP_lt h2
          obtain ⟨ok2, m2, e2, u2, v2⟩ := pX11_number2 hT (show j + 1 ≤ l by omega) (x := 1) (by decide) m1
          have e2 : fX11_readsNumber (nI (j + 1)) m1 text (nI l) 1 2 = _ := e2
          rw [if_pos rfl, if_pos rfl, if_pos rfl]
          dsimp only
          rw [if_neg n10, e2, bind_s]
          cases h3 : numP C l (j + 1) with
          | none =>
            rw [h3] at v2
            dsimp only at v2 ⊢
            rw [if_pos v2]
            exact ⟨_, _, _, rfl, rfl⟩
          | some p =>
            obtain ⟨m, b⟩ := p
            have b3 := numP_le h3
            rw [h3] at v2
            dsimp only at v2 ⊢
            rw [if_neg (by rw [v2.1]; exact n10), if_neg (show ¬ nI 117 = (98 : Int32) by decide), show fX11_eats (nI m) text (nI l) 64 = _ from pX11_eats hT (by omega) (c := 64) (by decide), bind_s]
            have f0 : m2 0 = nI a := by rw [u2 0 (by decide)]; exact v1.2
            cases h4 : chP C l m 64 with
            | false =>
              exact ⟨_, _, _, rfl, rfl, rfl, f0, fun _ => ⟨v2.2, by rw [u2 2 (by decide), u1 2 (by decide), z2], by rw [u2 3 (by decide), u1 3 (by decide), z3]⟩, fun q => absurd q (by decide), fun q => absurd q (by decide)⟩
            | true =>
              have b4 := chP_lt h4
              obtain ⟨ok3, m3, e3, u3, v3⟩ := pX11_number1 hT (show m + 1 ≤ l by omega) (x := 2) (by decide) m2
              have e3 : fX11_readsNumber (nI (m + 1)) m2 text (nI l) 2 1 = _ := e3
              rw [if_pos rfl, if_pos rfl, if_pos rfl]
              dsimp only
              rw [if_neg n10, e3, bind_s]
              cases h5 : dgP C l (m + 1) with
              | false =>
                rw [h5, if_neg ff] at v3
                rw [if_neg ff, if_neg ff, if_pos v3]
                exact ⟨_, _, _, rfl, rfl⟩
              | true =>
                have b5 := dgP_lt h5
                rw [h5, if_pos rfl] at v3
                rw [if_pos rfl, if_pos rfl]
                dsimp only
                rw [if_neg (by rw [v3.1]; exact n10), show fX11_eats (nI (m + 1 + 1)) text (nI l) 33 = _ from pX11_eats hT (by omega) (c := 33) (by decide), bind_s]
                have g0 : m3 0 = nI a := by rw [u3 0 (by decide)]; exact f0
                have g1 : m3 1 = nI b := by rw [u3 1 (by decide)]; exact v2.2
                cases h6 : chP C l (m + 1 + 1) 33 with
                | false =>
                  exact ⟨_, _, _, rfl, rfl, rfl, (pk_un (by decide)).trans g0, fun _ => ⟨(pk_un (by decide)).trans g1, (pk_un (by decide)).trans v3.2, pk_us⟩, fun q => absurd q (by decide), fun q => absurd q (by decide)⟩
                | true =>
                  exact ⟨_, _, _, rfl, rfl, rfl, (pk_un (by decide)).trans g0, fun _ => ⟨(pk_un (by decide)).trans g1, (pk_un (by decide)).trans v3.2, pk_us⟩, fun q => absurd q (by decide), fun q => absurd q (by decide)⟩
    · have n117 : ¬ nI (C i) = (117 : Int32) := fun q => k1 ((inj 117 (by decide)).mp q)
      rw [if_neg n117, decide_eq_false k1, if_neg ff]
      by_cases k2 : C i = 98
      · rw [k2, if_pos (show nI 98 = (98 : Int32) from rfl), decide_eq_true rfl, if_pos rfl, e1, bind_s]
        unfold bordP
        cases h1 : numP C l (i + 1) with
        | none =>
          rw [h1] at v1
          dsimp only at v1 ⊢
          rw [if_pos v1]
          exact ⟨_, _, _, rfl, rfl⟩
        | some p =>
          obtain ⟨j, a⟩ := p
          have b1 := numP_le h1
          rw [h1] at v1
          dsimp only at v1 ⊢
          rw [if_neg (by rw [v1.1]; exact n10), if_neg (show ¬ nI 98 = (111 : Int32) by decide), show fX11_eats (nI j) text (nI l) 45 = _ from pX11_eats hT (by omega) (c := 45) (by decide), bind_s]
          cases h2 : chP C l j 45 with
          | false => exact ⟨_, _, _, rfl, rfl⟩
          | true =>
            have b2 := chP_lt h2
            obtain ⟨ok2, m2, e2, u2, v2⟩ := pX11_number2 hT (show j + 1 ≤ l by omega) (x := 1) (by decide) m1
            have e2 : fX11_readsNumber (nI (j + 1)) m1 text (nI l) 1 2 = _ := e2
            rw [if_pos rfl, if_pos rfl, if_pos rfl]
            dsimp only
            rw [if_neg n10, e2, bind_s]
            cases h3 : numP C l (j + 1) with
            | none =>
              rw [h3] at v2
              dsimp only at v2 ⊢
              rw [if_pos v2]
              exact ⟨_, _, _, rfl, rfl⟩
            | some p =>
              obtain ⟨m, b⟩ := p
              have b3 := numP_le h3
              rw [h3] at v2
              dsimp only at v2 ⊢
              rw [if_neg (by rw [v2.1]; exact n10), show fX11_eats (nI m) text (nI l) 58 = _ from pX11_eats hT (by omega) (c := 58) (by decide), bind_s]
              have f0 : m2 0 = nI a := by rw [u2 0 (by decide)]; exact v1.2
              cases h4 : chP C l m 58 with
              | false => exact ⟨_, _, _, rfl, rfl⟩
              | true =>
                have b4 := chP_lt h4
                obtain ⟨ok3, m3, e3, u3, v3⟩ := pX11_number1 hT (show m + 1 ≤ l by omega) (x := 2) (by decide) m2
                have e3 : fX11_readsNumber (nI (m + 1)) m2 text (nI l) 2 1 = _ := e3
                rw [if_pos rfl, if_pos rfl, if_pos rfl]
                dsimp only
                rw [if_neg n10, e3, bind_s]
                cases h5 : dgP C l (m + 1) with
                | false =>
                  rw [h5, if_neg ff] at v3
                  rw [if_neg ff, if_neg ff, if_pos v3]
                  exact ⟨_, _, _, rfl, rfl⟩
                | true =>
                  rw [h5, if_pos rfl] at v3
                  rw [if_pos rfl, if_pos rfl]
                  dsimp only
                  rw [if_neg (by rw [v3.1]; exact n10)]
                  exact ⟨_, _, _, rfl, rfl, rfl, by rw [u3 0 (by decide)]; exact f0, fun q => absurd q (by decide), fun _ => ⟨by rw [u3 1 (by decide)]; exact v2.2, v3.2⟩, fun q => absurd q (by decide)⟩
      · have n98 : ¬ nI (C i) = (98 : Int32) := fun q => k2 ((inj 98 (by decide)).mp q)
        rw [if_neg n98, decide_eq_false k2, if_neg ff]
        by_cases k3 : C i = 111
        · rw [k3, if_pos (show nI 111 = (111 : Int32) from rfl), decide_eq_true rfl, if_pos rfl, e1, bind_s]
          unfold outP
          cases h1 : numP C l (i + 1) with
          | none =>
            rw [h1] at v1
            dsimp only at v1 ⊢
            rw [if_pos v1]
            exact ⟨_, _, _, rfl, rfl⟩
          | some p =>
            obtain ⟨j, a⟩ := p
            have b1 := numP_le h1
            rw [h1] at v1
            dsimp only at v1 ⊢
            rw [if_neg (by rw [v1.1]; exact n10), show fX11_eats (nI j) text (nI l) 58 = _ from pX11_eats hT (by omega) (c := 58) (by decide), bind_s]
            cases h2 : chP C l j 58 with
            | false => exact ⟨_, _, _, rfl, rfl⟩
            | true =>
              have b2 := chP_lt h2
              obtain ⟨ok3, m3, e3, u3, v3⟩ := pX11_number1 hT (show j + 1 ≤ l by omega) (x := 2) (by decide) m1
              have e3 : fX11_readsNumber (nI (j + 1)) m1 text (nI l) 2 1 = _ := e3
              rw [if_pos rfl, if_pos rfl, if_pos rfl]
              dsimp only
              rw [if_neg n10, e3, bind_s]
              cases h5 : dgP C l (j + 1) with
              | false =>
                rw [h5, if_neg ff] at v3
                rw [if_neg ff, if_neg ff, if_pos v3]
                exact ⟨_, _, _, rfl, rfl⟩
              | true =>
                rw [h5, if_pos rfl] at v3
                rw [if_pos rfl, if_pos rfl]
                dsimp only
                rw [if_neg (by rw [v3.1]; exact n10)]
                exact ⟨_, _, _, rfl, rfl, rfl, by rw [u3 0 (by decide)]; exact v1.2, fun q => absurd q (by decide), fun q => absurd q (by decide), fun _ => v3.2⟩
        · have n111 : ¬ nI (C i) = (111 : Int32) := fun q => k3 ((inj 111 (by decide)).mp q)
          rw [if_neg n111, decide_eq_false k3, if_neg ff]
          exact ⟨_, _, _, rfl, rfl⟩
  · have no : ∀ c, chP C l i c = false := fun c => decide_eq_false fun q => h q.1
    rw [if_neg h, no, no, no, if_neg ff, if_neg ff, if_neg ff, if_neg (by decide), if_neg (by decide), if_neg (by decide)]
    exact ⟨_, _, _, rfl, rfl⟩
end TR
