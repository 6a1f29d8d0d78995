/-! unit, border, outer: class and reference in step -/
section DI
variable {g area com : Nat → Int32} {cores : Int32} {len nb outer pop : Nat → Int32} {units : Int32} {n : Nat}
theorem st_unit {nums : Nat → Int32} {a b : Nat} {c co : Int32} (h : WM g area com cores len nb outer pop units) (ha : a ≤ 99) (hb : b ≤ 99) (hc : c = -1 ∨ ∃ d, d ≤ 9 ∧ c = nI d) (hco : co = 0 ∨ co = 1) (m0 : nums 0 = nI a) (m1 : nums 1 = nI b) (m2 : nums 2 = c) (m3 : nums 3 = co) :
    ∃ ok area' com' cores' outer' pop' units' g', fX9_addUnit area com cores outer pop units (nI a) (nI b) c co = some (ok, area', com', cores', outer', pop', units') ∧ fX11_does g 117 nums = some (ok, g') ∧ (ok = 0 ∨ ok = 1) ∧ (ok = 1 → WM g' area' com' cores' len nb outer' pop' units' ∧ ∀ x, 205 ≤ x → g' x = g x) := by
  obtain ⟨n, rfl, hR, hW, hX⟩ := h
  have hn := hR.n12
  have hg := hR.g204
  rw [fX9_addUnit, fX11_does, if_pos rfl, k204, hg, kk0, kk1, kk2, m0, m1, m2]
  by_cases h12 : n = 12
  · subst h12
    rw [if_pos (show (12 : Int32) ≤ nI 12 by decide), if_pos (show nI 12 = (12 : Int32) from rfl)]
    exact ⟨_, _, _, _, _, _, _, _, rfl, rfl, Or.inl rfl, fun q => absurd q (by decide)⟩
  · rw [if_neg (ge12 (show n < 12 by omega)), if_neg (show ¬ nI n = (12 : Int32) from fun q => h12 (nI_inj (b := 12) (by omega) (by omega) q))]
    by_cases a0 : a = 0
    · rw [if_pos (show nI a = (0 : Int32) by rw [a0]; rfl), if_pos (show nI a = (0 : Int32) by rw [a0]; rfl)]
      exact ⟨_, _, _, _, _, _, _, _, rfl, rfl, Or.inl rfl, fun q => absurd q (by decide)⟩
    · rw [if_neg (nI_ne0 (show 0 < a by omega) (by omega)), if_neg (nI_ne0 (show 0 < a by omega) (by omega))]
      by_cases b0 : b = 0
      · rw [if_pos (show nI b = (0 : Int32) by rw [b0]; rfl), if_pos (show nI b = (0 : Int32) by rw [b0]; rfl)]
        exact ⟨_, _, _, _, _, _, _, _, rfl, rfl, Or.inl rfl, fun q => absurd q (by decide)⟩
      · rw [if_neg (nI_ne0 (show 0 < b by omega) (by omega)), if_neg (nI_ne0 (show 0 < b by omega) (by omega))]
        by_cases c4 : c < (4 : Int32)
        · have hc' : c = -1 ∨ ∃ d, d < 4 ∧ c = nI d := by
            rcases hc with q | ⟨d, d9, rfl⟩
            · exact Or.inl q
            · refine Or.inr ⟨d, ?_, rfl⟩
              exact (nI_ltI (b := 4) (by omega) (by omega)).mp c4
          have i12 : inR (nI n) 12 := (inR_nI (by omega)).mpr (by omega)
          rw [if_pos c4, if_pos c4, if_pos i12, if_pos i12, if_pos i12, if_pos i12, does_L54 hg (by omega)]
          have e4 : putU n nums g 204 = nI n := by unfold putU; rw [if_neg (by omega)]; exact hg
          have ei : ((0 : Int32) + ((5 : Int32) * nI n)) + (4 : Int32) = nI (5 * n + 4) := by rw [show (5 : Int32) = nI 5 from rfl, pk_mul, show (0 : Int32) = nI 0 from rfl, nI_add, show (4 : Int32) = nI 4 from rfl, nI_add]; congr 1; omega
          rw [e4, ei, if_pos ((inR_nI (by omega)).mpr (by omega)), nI_clamp (show 5 * n + 4 < 2 ^ 31 by omega), does_L112 (n := n) (by rw [pk_un (by omega)]; exact e4) (by omega), nI_clamp (by omega)]
          have key : ∀ cores', (∀ v, pbit cores' v = if v = n then decide (co ≠ 0) else pbit cores v) → WM (upd (zerB n 12 (upd (putU n nums g) (5 * n + 4) 0)) 204 (zerB n 12 (upd (putU n nums g) (5 * n + 4) 0) 204 + 1)) (upd area n (nI b)) (upd com n c) cores' len nb (upd outer n 0) (upd pop n (nI a)) (nI n + 1) := fun cores' hcc => by
            have lo : ∀ x, x < 60 → upd (zerB n 12 (upd (putU n nums g) (5 * n + 4) 0)) 204 (zerB n 12 (upd (putU n nums g) (5 * n + 4) 0) 204 + 1) x = upd (putU n nums g) (5 * n + 4) 0 x := fun x hx => by
              rw [pk_un (by omega), zerB, if_neg (by omega)]
            have mid : ∀ x, 60 ≤ x → x < 204 → upd (zerB n 12 (upd (putU n nums g) (5 * n + 4) 0)) 204 (zerB n 12 (upd (putU n nums g) (5 * n + 4) 0) 204 + 1) x = if (((x - 60) / 12 = n ∧ (x - 60) % 12 < 12) ∨ ((x - 60) % 12 = n ∧ (x - 60) / 12 < 12)) then 0 else g x := fun x h60 hx => by
              rw [pk_un (by omega), zerB]
              by_cases q : (((x - 60) / 12 = n ∧ (x - 60) % 12 < 12) ∨ ((x - 60) % 12 = n ∧ (x - 60) / 12 < 12))
              · rw [if_pos ⟨h60, hx, q⟩, if_pos q]
              · rw [if_neg (fun p => q p.2.2), if_neg q, pk_un (by omega), putU, if_neg (by omega)]
            have at4 : ∀ k, k < 4 → upd (putU n nums g) (5 * n + 4) 0 (5 * n + k) = nums k := fun k hk => by
              rw [pk_un (by omega), putU, if_pos (by omega)]; congr 1; omega
            refine wm_unit hR hW hX (by omega) ⟨by omega, ha⟩ ⟨by omega, hb⟩ hc' hco ?_ ⟨?_, ?_, ?_, ?_, ?_⟩ (fun x hx => ?_) (fun u v hu hv => ?_) (fun v hv => ⟨?_, ?_⟩) hcc
            · rw [pk_us, zerB, if_neg (by omega), pk_un (by omega), e4, nI_1]
            · rw [lo _ (by omega)]; exact (at4 0 (by omega)).trans m0
            · rw [lo _ (by omega)]; exact (at4 1 (by omega)).trans m1
            · rw [lo _ (by omega)]; exact (at4 2 (by omega)).trans m2
            · rw [lo _ (by omega)]; exact (at4 3 (by omega)).trans m3
            · rw [lo _ (by omega), pk_us]
            · rw [lo _ (by omega), pk_un (by omega), putU, if_neg (by omega)]
            · unfold gB
              rw [mid _ (by omega) (by omega), if_neg (by omega)]
            · unfold gB
              rw [mid _ (by omega) (by omega), if_pos (by omega)]
            · unfold gB
              rw [mid _ (by omega) (by omega), if_pos (by omega)]
          have hi : ∀ x, 205 ≤ x → upd (zerB n 12 (upd (putU n nums g) (5 * n + 4) 0)) 204 (zerB n 12 (upd (putU n nums g) (5 * n + 4) 0) 204 + 1) x = g x := fun x hx => by
            rw [pk_un (by omega), zerB, if_neg (by omega), pk_un (by omega), putU, if_neg (by omega)]
          by_cases co0 : co = 0
          · rw [if_pos co0]
            refine ⟨_, _, _, _, _, _, _, _, rfl, rfl, Or.inr rfl, fun _ => ⟨key _ fun v => ?_, hi⟩⟩
            by_cases e : v = n
            · rw [if_pos e, e, hX.2.2 n (Nat.le_refl n), co0]; rfl
            · rw [if_neg e]
          · rw [if_neg co0]
            refine ⟨_, _, _, _, _, _, _, _, rfl, rfl, Or.inr rfl, fun _ => ⟨key _ fun v => ?_, hi⟩⟩
            rw [pbit_or, pbit_shl (by omega)]
            by_cases e : v = n
            · rw [if_pos e, e, decide_eq_true rfl, Bool.or_true, decide_eq_true co0]
            · rw [if_neg e, decide_eq_false (fun q => e q.symm), Bool.or_false]
        · rw [if_neg c4, if_neg c4]
          exact ⟨_, _, _, _, _, _, _, _, rfl, rfl, Or.inl rfl, fun q => absurd q (by decide)⟩
theorem st_outer {nums : Nat → Int32} {a b : Nat} (h : WM g area com cores len nb outer pop units) (ha : a ≤ 99) (hb : b ≤ 9) (m0 : nums 0 = nI a) (m2 : nums 2 = nI b) :
    ∃ ok outer' g', fX9_setOuter outer units (nI a) (nI b) = some (ok, outer') ∧ fX11_does g 111 nums = some (ok, g') ∧ (ok = 0 ∨ ok = 1) ∧ (ok = 1 → WM g' area com cores len nb outer' pop units ∧ ∀ x, 205 ≤ x → g' x = g x) := by
  obtain ⟨n, rfl, hR, hW, hX⟩ := h
  have hn := hR.n12
  have hg := hR.g204
  rw [fX9_setOuter, fX11_does, if_neg (show ¬ (111 : Int32) = 117 by decide), kk0, kk2, m0, m2, pX11_isUnit hg (by omega), bind_s]
  by_cases h1 : a < n
  · rw [if_pos (nI_lt h1 (by omega)), if_pos ((inR_nI (by omega)).mpr (show a < 12 by omega)), if_pos ((inR_nI (by omega)).mpr h1), if_neg n10, if_pos rfl]
    have ei : ((0 : Int32) + ((5 : Int32) * nI a)) + (4 : Int32) = nI (5 * a + 4) := by rw [show (5 : Int32) = nI 5 from rfl, pk_mul, show (0 : Int32) = nI 0 from rfl, nI_add, show (4 : Int32) = nI 4 from rfl, nI_add]; congr 1; omega
    rw [ei, if_pos ((inR_nI (by omega)).mpr (by omega)), nI_clamp (by omega), nI_clamp (by omega)]
    refine ⟨_, _, _, rfl, rfl, Or.inr rfl, fun _ => ⟨⟨n, rfl, ⟨by rw [pk_un (by omega)]; exact hg, hn, fun u hu => ?_, fun u v hu hv => ?_, fun u hu => ?_⟩, ⟨fun u hu => ?_, fun u v hu hv => ?_⟩, hX⟩, fun x hx => pk_un (by omega)⟩⟩
    · obtain ⟨q1, q2, q3, q4, q5⟩ := hR.2.2.1 u hu
      rw [pk_un (show 5 * u ≠ 5 * a + 4 by omega), pk_un (show 5 * u + 1 ≠ 5 * a + 4 by omega), pk_un (show 5 * u + 2 ≠ 5 * a + 4 by omega), pk_un (show 5 * u + 3 ≠ 5 * a + 4 by omega)]
      refine ⟨q1, q2, q3, ?_, q5⟩
      by_cases e : u = a
      · subst e; rw [pk_us, pk_us]
      · rw [pk_un e, pk_un (by omega)]; exact q4
    · unfold gB
      rw [pk_un (by omega)]
      exact hR.len hu hv
    · rw [hR.nb hu]
      unfold nbS gB
      exact mkS_congr fun v hv => by rw [pk_un (by omega)]
    · obtain ⟨q1, q2, q3, q4, o, q5, q6⟩ := hW.1 u hu
      rw [pk_un (show 5 * u ≠ 5 * a + 4 by omega), pk_un (show 5 * u + 1 ≠ 5 * a + 4 by omega), pk_un (show 5 * u + 2 ≠ 5 * a + 4 by omega), pk_un (show 5 * u + 3 ≠ 5 * a + 4 by omega)]
      refine ⟨q1, q2, q3, q4, ?_⟩
      by_cases e : u = a
      · subst e; exact ⟨b, hb, pk_us⟩
      · exact ⟨o, q5, (pk_un (by omega)).trans q6⟩
    · unfold gB
      rw [pk_un (by omega), pk_un (by omega)]
      exact hW.2 u v hu hv
  · rw [if_neg (nI_nlt (show n ≤ a by omega) (by omega)), if_neg (fun q => h1 ((inR_nI (by omega)).mp q)), if_pos rfl]
    exact ⟨_, _, _, rfl, rfl, Or.inl rfl, fun q => absurd q (by decide)⟩
theorem cl_at {f : Nat → Int32} {a b : Nat} (ha : a < 12) (hb : b < 12) (hab : a ≠ b) (u v : Nat) (hv : v < 32) : pbit (upd (upd f a ((f a) &&& (((1 : Int32) <<< (nI b &&& 31)) ^^^ (-1 : Int32)))) b (((upd f a ((f a) &&& (((1 : Int32) <<< (nI b &&& 31)) ^^^ (-1 : Int32)))) b) &&& (((1 : Int32) <<< (nI a &&& 31)) ^^^ (-1 : Int32))) u) v = if (u = a ∧ v = b) ∨ (u = b ∧ v = a) then false else pbit (f u) v := by
  by_cases e : u = b
  · subst e
    rw [pk_us, pk_un (fun q => hab q.symm), pbit_and, pbit_not _ hv, pbit_shl (by omega)]
    by_cases e2 : v = a
    · rw [if_pos (Or.inr ⟨rfl, e2⟩), decide_eq_true e2.symm]; simp
    · rw [if_neg (by omega), decide_eq_false (fun q => e2 q.symm)]; simp
  · rw [pk_un e]
    by_cases e1 : u = a
    · subst e1
      rw [pk_us, pbit_and, pbit_not _ hv, pbit_shl (by omega)]
      by_cases e2 : v = b
      · rw [if_pos (Or.inl ⟨rfl, e2⟩), decide_eq_true e2.symm]; simp
      · rw [if_neg (by omega), decide_eq_false (fun q => e2 q.symm)]; simp
    · rw [pk_un e1, if_neg (by omega)]
theorem st_at {f : Nat → Int32} {a b : Nat} (ha : a < 12) (hb : b < 12) (hab : a ≠ b) (u v : Nat) : pbit (upd (upd f a ((f a) ||| ((1 : Int32) <<< (nI b &&& 31)))) b (((upd f a ((f a) ||| ((1 : Int32) <<< (nI b &&& 31)))) b) ||| ((1 : Int32) <<< (nI a &&& 31))) u) v = if (u = a ∧ v = b) ∨ (u = b ∧ v = a) then true else pbit (f u) v := by
  by_cases e : u = b
  · subst e
    rw [pk_us, pk_un (fun q => hab q.symm), pbit_or, pbit_shl (by omega)]
    by_cases e2 : v = a
    · rw [if_pos (Or.inr ⟨rfl, e2⟩), decide_eq_true e2.symm]; simp
    · rw [if_neg (by omega), decide_eq_false (fun q => e2 q.symm)]; simp
  · rw [pk_un e]
    by_cases e1 : u = a
    · subst e1
      rw [pk_us, pbit_or, pbit_shl (by omega)]
      by_cases e2 : v = b
      · rw [if_pos (Or.inl ⟨rfl, e2⟩), decide_eq_true e2.symm]; simp
      · rw [if_neg (by omega), decide_eq_false (fun q => e2 q.symm)]; simp
    · rw [pk_un e1, if_neg (by omega)]
theorem upd_gB {a b : Nat} {x : Int32} (ha : a < 12) (hb : b < 12) {u v : Nat} (hu : u < 12) (hv : v < 12) : gB (upd (upd g (60 + 12 * a + b) x) (60 + 12 * b + a) x) u v = if (u = a ∧ v = b) ∨ (u = b ∧ v = a) then x else gB g u v := by
  unfold gB
  by_cases e : u = b ∧ v = a
  · rw [e.1, e.2, pk_us, if_pos (Or.inr ⟨rfl, rfl⟩)]
  · rw [pk_un (by omega)]
    by_cases e2 : u = a ∧ v = b
    · rw [e2.1, e2.2, pk_us, if_pos (Or.inl ⟨rfl, rfl⟩)]
    · rw [pk_un (by omega), if_neg (by omega)]
theorem upd_len {a b : Nat} {x : Int32} (ha : a < 12) (hb : b < 12) {u v : Nat} (hu : u < 12) (hv : v < 12) : upd (upd len (a * 12 + b) x) (b * 12 + a) x (u * 12 + v) = if (u = a ∧ v = b) ∨ (u = b ∧ v = a) then x else len (u * 12 + v) := by
  by_cases e : u = b ∧ v = a
  · rw [e.1, e.2, pk_us, if_pos (Or.inr ⟨rfl, rfl⟩)]
  · rw [pk_un (by omega)]
    by_cases e2 : u = a ∧ v = b
    · rw [e2.1, e2.2, pk_us, if_pos (Or.inl ⟨rfl, rfl⟩)]
    · rw [pk_un (by omega), if_neg (by omega)]
theorem wm_border {nb' : Nat → Int32} {a b d : Nat} (hR : MapR g n pop area com outer nb len cores) (hW : MapW g n) (hX : MapX n len nb cores) (ha : a < n) (hb : b < n) (hab : a ≠ b) (hd : d ≤ 9) (hn' : ∀ u v, v < 32 → pbit (nb' u) v = if (u = a ∧ v = b) ∨ (u = b ∧ v = a) then decide (d ≠ 0) else pbit (nb u) v) : WM (upd (upd g (60 + 12 * a + b) (nI d)) (60 + 12 * b + a) (nI d)) area com cores (upd (upd len (a * 12 + b) (nI d)) (b * 12 + a) (nI d)) nb' outer pop (nI n) := by
  have hn := hR.n12
  have hgB : ∀ u v, u < 12 → v < 12 → gB (upd (upd g (60 + 12 * a + b) (nI d)) (60 + 12 * b + a) (nI d)) u v = if (u = a ∧ v = b) ∨ (u = b ∧ v = a) then nI d else gB g u v := fun u v hu hv => upd_gB (by omega) (by omega) hu hv
  have hlen : ∀ u v, u < 12 → v < 12 → upd (upd len (a * 12 + b) (nI d)) (b * 12 + a) (nI d) (u * 12 + v) = if (u = a ∧ v = b) ∨ (u = b ∧ v = a) then nI d else len (u * 12 + v) := fun u v hu hv => upd_len (by omega) (by omega) hu hv
  have lo : ∀ x, x < 60 → upd (upd g (60 + 12 * a + b) (nI d)) (60 + 12 * b + a) (nI d) x = g x := fun x hx => by rw [pk_un (by omega), pk_un (by omega)]
  refine ⟨n, rfl, ⟨by rw [pk_un (by omega), pk_un (by omega)]; exact hR.1, hn, fun u hu => ?_, fun u v hu hv => ?_, fun u hu => ?_⟩, ⟨fun u hu => ?_, fun u v hu hv => ?_⟩, ⟨fun u v hu hv h => ?_, fun u hu h12 => ?_, hX.2.2⟩⟩
  · rw [lo (5 * u) (by omega), lo (5 * u + 1) (by omega), lo (5 * u + 2) (by omega), lo (5 * u + 4) (by omega), lo (5 * u + 3) (by omega)]
    exact hR.2.2.1 u hu
  · rw [hgB u v (by omega) (by omega), hlen u v (by omega) (by omega), hR.len hu hv]
  · apply pbit_ext
    intro v hv32
    unfold nbS
    rw [hn' u v hv32, pbit_mkS' (by omega), hR.nb hu]
    unfold nbS
    rw [pbit_mkS' (by omega)]
    by_cases hv : v < n
    · rw [hgB u v (by omega) (by omega)]
      by_cases e : (u = a ∧ v = b) ∨ (u = b ∧ v = a)
      · rw [if_pos e, if_pos e, decide_eq_true hv, Bool.true_and]
        by_cases d0 : d = 0
        · rw [decide_eq_false (fun q => q d0), decide_eq_false (show ¬ (0 : Int32) < nI d from nI_nlt (a := 0) (b := d) (by omega) (by omega))]
        · rw [decide_eq_true d0, decide_eq_true (show (0 : Int32) < nI d from nI_lt (a := 0) (by omega) (by omega))]
      · rw [if_neg e, if_neg e]
    · rw [if_neg (by omega), decide_eq_false hv, Bool.false_and, Bool.false_and]
  · rw [lo (5 * u) (by omega), lo (5 * u + 1) (by omega), lo (5 * u + 2) (by omega), lo (5 * u + 4) (by omega), lo (5 * u + 3) (by omega)]
    exact hW.1 u hu
  · rw [hgB u v (by omega) (by omega), hgB v u (by omega) (by omega)]
    by_cases e : (u = a ∧ v = b) ∨ (u = b ∧ v = a)
    · rw [if_pos e, if_pos (by omega)]
      exact ⟨d, hd, rfl, rfl, fun q => by omega⟩
    · rw [if_neg e, if_neg (by omega)]
      exact hW.2 u v hu hv
  · rw [hlen u v hu hv, if_neg (by omega)]
    exact hX.1 u v hu hv h
  · apply pbit_ext
    intro v hv32
    rw [hn' u v hv32, if_neg (by omega), hX.2.1 u hu h12]
theorem st_border {nums : Nat → Int32} {a b d : Nat} (h : WM g area com cores len nb outer pop units) (ha : a ≤ 99) (hb : b ≤ 99) (hd : d ≤ 9) (m0 : nums 0 = nI a) (m1 : nums 1 = nI b) (m2 : nums 2 = nI d) :
    ∃ ok len' nb' g', fX9_setLength len nb units (nI a) (nI b) (nI d) = some (ok, len', nb') ∧ fX11_does g 98 nums = some (ok, g') ∧ (ok = 0 ∨ ok = 1) ∧ (ok = 1 → WM g' area com cores len' nb' outer pop units ∧ ∀ x, 205 ≤ x → g' x = g x) := by
  obtain ⟨n, rfl, hR, hW, hX⟩ := h
  have hn := hR.n12
  have hg := hR.g204
  rw [fX9_setLength, fX11_does, if_neg (show ¬ (98 : Int32) = 117 by decide), kk0, kk1, kk2, m0, m1, m2, pX11_isUnit hg (by omega), bind_s, pX11_isUnit hg (by omega)]
  by_cases h1 : a < n
  · rw [if_neg (nI_ge h1 (by omega)), if_pos ((inR_nI (by omega)).mpr h1), if_neg n10, if_neg (show ¬ (98 : Int32) = 111 by decide), bind_s]
    by_cases h2 : b < n
    · rw [if_neg (nI_ge h2 (by omega)), if_pos ((inR_nI (by omega)).mpr h2), if_neg n10]
      by_cases h3 : a = b
      · rw [if_pos (show nI a = nI b by rw [h3]), if_pos (show nI a = nI b by rw [h3])]
        exact ⟨_, _, _, _, rfl, rfl, Or.inl rfl, fun q => absurd q (by decide)⟩
      · have h3' : ¬ nI a = nI b := fun q => h3 (nI_inj (by omega) (by omega) q)
        have e1 : nI a * (12 : Int32) + nI b = nI (a * 12 + b) := by rw [show (12 : Int32) = nI 12 from rfl, pk_mul, nI_add]
        have e2 : nI b * (12 : Int32) + nI a = nI (b * 12 + a) := by rw [show (12 : Int32) = nI 12 from rfl, pk_mul, nI_add]
        have e3 : ((60 : Int32) + ((12 : Int32) * nI a)) + nI b = nI (60 + 12 * a + b) := by rw [show (12 : Int32) = nI 12 from rfl, pk_mul, show (60 : Int32) = nI 60 from rfl, nI_add, nI_add]
        have e4 : ((60 : Int32) + ((12 : Int32) * nI b)) + nI a = nI (60 + 12 * b + a) := by rw [show (12 : Int32) = nI 12 from rfl, pk_mul, show (60 : Int32) = nI 60 from rfl, nI_add, nI_add]
        have r1 : inR (nI (a * 12 + b)) 144 := (inR_nI (by omega)).mpr (by omega)
        have r2 : inR (nI (b * 12 + a)) 144 := (inR_nI (by omega)).mpr (by omega)
        have r3 : inR (nI a) 12 := (inR_nI (by omega)).mpr (by omega)
        have r4 : inR (nI b) 12 := (inR_nI (by omega)).mpr (by omega)
        have r5 : inR (nI (60 + 12 * a + b)) 221 := (inR_nI (by omega)).mpr (by omega)
        have r6 : inR (nI (60 + 12 * b + a)) 221 := (inR_nI (by omega)).mpr (by omega)
        have c1 : (nI a).toNatClampNeg = a := nI_clamp (by omega)
        have c2 : (nI b).toNatClampNeg = b := nI_clamp (by omega)
        have c3 : (nI (a * 12 + b)).toNatClampNeg = a * 12 + b := nI_clamp (by omega)
        have c4 : (nI (b * 12 + a)).toNatClampNeg = b * 12 + a := nI_clamp (by omega)
        have c5 : (nI (60 + 12 * a + b)).toNatClampNeg = 60 + 12 * a + b := nI_clamp (by omega)
        have c6 : (nI (60 + 12 * b + a)).toNatClampNeg = 60 + 12 * b + a := nI_clamp (by omega)
        have hhi : ∀ x, 205 ≤ x → upd (upd g (60 + 12 * a + b) (nI d)) (60 + 12 * b + a) (nI d) x = g x := fun x hx => by rw [pk_un (by omega), pk_un (by omega)]
        rw [if_neg h3', if_neg h3', e1, e2, e3, e4, if_pos r5, if_pos r6, if_pos r1, if_pos r2, if_pos r3, if_pos r3, if_pos r4, if_pos r4, if_pos r3, if_pos r3, if_pos r4, if_pos r4, c1, c2, c3, c4, c5, c6]
        by_cases d0 : d = 0
        · subst d0
          rw [if_pos (show nI 0 = (0 : Int32) from rfl), if_pos (show nI 0 = (0 : Int32) from rfl), if_pos (show nI 0 ≤ (0 : Int32) by decide), fX9_lengthBetween, e1, if_pos r1, c3, bind_s, pX11_borderOf (by omega) (by omega), bind_s, hR.len h1 h2]
          by_cases h5 : gB g a b = 0
          · rw [if_pos h5, if_pos h5]
            exact ⟨_, _, _, _, rfl, rfl, Or.inl rfl, fun q => absurd q (by decide)⟩
          · rw [if_neg h5, if_neg h5]
            refine ⟨_, _, _, _, rfl, rfl, Or.inr rfl, fun _ => ⟨wm_border hR hW hX h1 h2 h3 hd fun u v hv => ?_, hhi⟩⟩
            exact cl_at (by omega) (by omega) h3 u v hv
        · rw [if_neg (nI_ne0 (show 0 < d by omega) (by omega)), if_neg (nI_ne0 (show 0 < d by omega) (by omega)), if_neg (nI_nle (show 0 < d by omega) (by omega))]
          refine ⟨_, _, _, _, rfl, rfl, Or.inr rfl, fun _ => ⟨wm_border hR hW hX h1 h2 h3 hd fun u v hv => ?_, hhi⟩⟩
          rw [st_at (by omega) (by omega) h3, cl_at (by omega) (by omega) h3 u v hv, decide_eq_true d0]
          by_cases e : (u = a ∧ v = b) ∨ (u = b ∧ v = a)
          · rw [if_pos e, if_pos e]
          · rw [if_neg e, if_neg e, if_neg e]
    · rw [if_pos (nI_le (show n ≤ b by omega) (by omega)), if_neg (fun q => h2 ((inR_nI (by omega)).mp q)), if_pos rfl]
      exact ⟨_, _, _, _, rfl, rfl, Or.inl rfl, fun q => absurd q (by decide)⟩
  · rw [if_pos (nI_le (show n ≤ a by omega) (by omega)), if_neg (fun q => h1 ((inR_nI (by omega)).mp q)), if_pos rfl]
    exact ⟨_, _, _, _, rfl, rfl, Or.inl rfl, fun q => absurd q (by decide)⟩
theorem isB_of {x : Int32} (h : x = 0 ∨ x = 1) : isB x := isB01' h
theorem st_lock {ok0 okM f ic kd sec thd lt : Int32} {nums : Nat → Int32} {s : Stm} (hB : StB s) (hC : CS (some s) ok0 f ic kd sec thd) (hM : MS (some s) okM lt nums) (h : WM g area com cores len nb outer pop units) :
    ∃ ok area' com' cores' len' nb' outer' pop' units' g', fX8_carryOutStatement area com cores len nb outer pop units f ic kd sec thd = some (ok, area', com', cores', len', nb', outer', pop', units') ∧ fX11_does g lt nums = some (ok, g') ∧ (ok = 0 ∨ ok = 1) ∧ (ok = 1 → WM g' area' com' cores' len' nb' outer' pop' units' ∧ ∀ x, 205 ≤ x → g' x = g x) := by
  obtain ⟨k, a, b, c, co⟩ := s
  obtain ⟨-, rfl, rfl, rfl, q1, q2⟩ := hC
  obtain ⟨-, rfl, m0, m1, m2, m3⟩ := hM
  rw [fX8_carryOutStatement]
  obtain ⟨ha, ⟨rfl, hb, hc, hco⟩ | ⟨rfl, hb, d, hd, rfl⟩ | ⟨rfl, hb⟩⟩ := hB
  · obtain ⟨rfl, rfl, -⟩ := q1 rfl
    obtain ⟨w1, w2, w3⟩ := m1 rfl
    obtain ⟨ok, area', com', cores', outer', pop', units', g', e1, e2, e3, e4⟩ := st_unit h ha hb hc hco m0 w1 w2 w3
    rw [if_pos (show nI 117 = (117 : Int32) from rfl), e1, bind_s, if_pos (isB_of e3)]
    exact ⟨_, _, _, _, _, _, _, _, _, _, rfl, e2, e3, e4⟩
  · have q := q2 rfl
    obtain ⟨w1, w2⟩ := m2 rfl
    obtain ⟨ok, len', nb', g', e1, e2, e3, e4⟩ := st_border h ha hb hd m0 w1 w2
    rw [if_neg (show ¬ nI 98 = (117 : Int32) by decide), if_pos (show nI 98 = (98 : Int32) from rfl), q, e1, bind_s, if_pos (isB_of e3)]
    exact ⟨_, _, _, _, _, _, _, _, _, _, rfl, e2, e3, e4⟩
  · obtain ⟨ok, outer', g', e1, e2, e3, e4⟩ := st_outer h ha hb m0 (m3 rfl)
    rw [if_neg (show ¬ nI 111 = (117 : Int32) by decide), if_neg (show ¬ nI 111 = (98 : Int32) by decide), e1, bind_s, if_pos (isB_of e3)]
    exact ⟨_, _, _, _, _, _, _, _, _, _, rfl, e2, e3, e4⟩
end DI
