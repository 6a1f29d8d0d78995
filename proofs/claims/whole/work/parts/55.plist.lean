/-! the class's list of plans -/
/-- a row of numbers with others written behind -/
def app (codes : Nat → Int32) (sz : Nat) (M : List Int32) : Nat → Int32 := fun i => if sz ≤ i ∧ i < sz + M.length then M.getD (i - sz) 0 else codes i
theorem app_nil {codes : Nat → Int32} {sz : Nat} : app codes sz [] = codes := funext fun i => if_neg (by rw [List.length_nil]; omega)
theorem app_app {codes : Nat → Int32} {sz : Nat} {M N : List Int32} : app (app codes sz M) (sz + M.length) N = app codes sz (M ++ N) := by
  funext i
  unfold app
  rw [List.length_append]
  by_cases h1 : sz + M.length ≤ i ∧ i < sz + M.length + N.length
  · rw [if_pos h1, if_pos (by omega), List.getD_eq_getElem?_getD, List.getD_eq_getElem?_getD, List.getElem?_append_right (by omega), show i - (sz + M.length) = i - sz - M.length by omega]
  · rw [if_neg h1]
    by_cases h2 : sz ≤ i ∧ i < sz + M.length
    · rw [if_pos h2, if_pos (by omega), List.getD_eq_getElem?_getD, List.getD_eq_getElem?_getD, List.getElem?_append_left (by omega)]
    · rw [if_neg h2, if_neg (by omega)]
theorem app_one {codes : Nat → Int32} {sz : Nat} {c : Int32} : app codes sz [c] = upd codes sz c := by
  funext i
  unfold app
  by_cases e : i = sz
  · subst e
    rw [pk_us, if_pos (by simp), Nat.sub_self]; rfl
  · rw [pk_un e, if_neg (by simp; omega)]
theorem catF_snoc {α : Type} {f : Nat → List α} : ∀ {c d : Nat}, catF f d (c + 1) = catF f d c ++ f (d + c)
  | 0, d => by rw [catF, catF, catF, List.append_nil, List.nil_append, Nat.add_zero]
  | c + 1, d => by
    rw [catF, catF_snoc, catF, List.append_assoc, show d + 1 + c = d + (c + 1) by omega]
/-- all sets of the districts are possible -/
def posB (poss S : Nat → Int32) (k : Nat) : Bool := decide (∀ d, d < k → ¬ poss (S d).toNatClampNeg = 0)
theorem pX0_keep {poss S codes : Nat → Int32} {k used sz : Nat} {c : Int32} (hk : k ≤ 4) (hu : used ≤ k) (hS : ∀ d, d < k → inR (S d) 512) (hz : used = k → sz < 7770) : fX0_keepIfLawful codes poss S (nI sz) (nI k) (nI used) c = some (if used = k ∧ posB poss S k = true then (upd codes sz c, nI (sz + 1)) else (codes, nI sz)) := by
  rw [fX0_keepIfLawful]
  by_cases h1 : used = k
  · subst h1
    have hz := hz rfl
    rw [if_neg (nI_nlt (Nat.le_refl used) (by omega)), if_pos (show nI sz < (7770 : Int32) from nI_lt hz (by decide)), if_pos ((inR_nI (by omega)).mpr hz), nI_clamp (by omega), nI_1]
    refine Eq.trans (upA (fun m i => fX0_keepIfLawful_L19 codes poss S (nI sz) (nI used) m _ (nI i)) used (fun d => decide (poss (S d).toNatClampNeg = 0)) (some (upd codes sz c, nI (sz + 1))) (some (codes, nI sz)) (fun m => ?_) (fun m i hi hp => ?_) (fun m i hi hp => ?_) 1000000 (by omega)) ?_
    · show fX0_keepIfLawful_L19 codes poss S (nI sz) (nI used) (m + 1) _ (nI used) = _
      rw [fX0_keepIfLawful_L19, if_pos (nI_leS used (by omega))]
    · show fX0_keepIfLawful_L19 codes poss S (nI sz) (nI used) (m + 1) _ (nI i) = fX0_keepIfLawful_L19 codes poss S (nI sz) (nI used) m _ (nI (i + 1))
      rw [fX0_keepIfLawful_L19, if_neg (nI_ge hi (by omega)), if_pos ((inR_nI (by omega)).mpr (by omega)), nI_clamp (by omega), if_pos (hS i hi), if_neg (of_decide_eq_false hp), nI_1]
    · show fX0_keepIfLawful_L19 codes poss S (nI sz) (nI used) (m + 1) _ (nI i) = _
      rw [fX0_keepIfLawful_L19, if_neg (nI_ge hi (by omega)), if_pos ((inR_nI (by omega)).mpr (by omega)), nI_clamp (by omega), if_pos (hS i hi), if_pos (of_decide_eq_true hp)]
    · cases ha : anyB used (fun d => decide (poss (S d).toNatClampNeg = 0)) with
      | true =>
        rw [if_pos rfl, if_neg]
        rintro ⟨-, hp⟩
        obtain ⟨i, hi, h2⟩ := anyB_iff.mp ha
        exact of_decide_eq_true hp i hi (of_decide_eq_true h2)
      | false =>
        rw [if_neg ff, if_pos]
        exact ⟨rfl, decide_eq_true fun d hd => of_decide_eq_false (anyB_false.mp ha d hd)⟩
  · rw [if_pos (nI_lt (by omega) (by omega)), if_neg (fun q => h1 q.1)]
/-- a set with one unit more -/
def addd (S : Nat → Int32) (u d : Nat) : Nat → Int32 := upd S d (S d ||| ((1 : Int32) <<< (nI u &&& 31)))
def codeI (c : Int32) (u d : Nat) : Int32 := c ||| (nI d <<< (((2 : Int32) * nI u) &&& 31))
/-- the rows kept, as numbers -/
def kM (k : Nat) (poss : Nat → Int32) : Nat → Nat → (Nat → Int32) → Nat → Int32 → List Int32
  | 0, _, S, used, c => if used = k ∧ posB poss S k = true then [c] else []
  | r + 1, u, S, used, c => catF (fun d => kM k poss r (u + 1) (addd S u d) (max used (d + 1)) (codeI c u d)) 0 (min used (k - 1) + 1)
/-- how many rows have all districts -/
def cK (k : Nat) : Nat → Nat → Nat
  | 0, used => if used = k then 1 else 0
  | r + 1, used => sumF (fun d => cK k r (max used (d + 1))) 0 (min used (k - 1) + 1)
theorem cK_le : ∀ n : Fin 10, ∀ k : Fin 5, cK k.val n.val 0 ≤ 7770 := by decide +kernel
theorem catF_le {α : Type} {f : Nat → List α} {h : Nat → Nat} (e : ∀ d, (f d).length ≤ h d) : ∀ c d, (catF f d c).length ≤ sumF h d c
  | 0, _ => Nat.le_refl _
  | c + 1, d => by
    rw [catF, sumF, List.length_append]
    have := e d
    have := catF_le e c (d + 1)
    omega
theorem kM_len {k : Nat} {poss : Nat → Int32} : ∀ (r u : Nat) (S : Nat → Int32) (used : Nat) (c : Int32), (kM k poss r u S used c).length ≤ cK k r used
  | 0, u, S, used, c => by
    rw [kM, cK]
    by_cases h : used = k
    · rw [if_pos h]; split <;> simp
    · rw [if_neg h, if_neg (fun q => h q.1)]; simp
  | r + 1, u, S, used, c => by
    rw [kM, cK]
    exact catF_le (fun d => kM_len r _ _ _ _) _ _
theorem sumF_snoc {f : Nat → Nat} : ∀ {c d : Nat}, sumF f d (c + 1) = sumF f d c + f (d + c)
  | 0, d => by simp [sumF]
  | c + 1, d => by rw [sumF, sumF_snoc, sumF, show d + 1 + c = d + (c + 1) by omega]; omega
theorem sumF_mono {f : Nat → Nat} : ∀ {c c' d : Nat}, c ≤ c' → sumF f d c ≤ sumF f d c'
  | c, 0, d, h => by rw [show c = 0 by omega]; exact Nat.le_refl _
  | c, c' + 1, d, h => by
    rcases Nat.lt_or_ge c (c' + 1) with h1 | h1
    · rw [sumF_snoc]
      exact Nat.le_trans (sumF_mono (c' := c') (by omega)) (Nat.le_add_right _ _)
    · rw [show c = c' + 1 by omega]; exact Nat.le_refl _
/-- the sets hold only units before u, all below 9 -/
def SetsB (S : Nat → Int32) (u : Nat) : Prop := ∀ d v, d < 4 → pbit (S d) v = true → v < u
theorem SetsB.add {S : Nat → Int32} {u d : Nat} (h : SetsB S u) (hu : u < 32) : SetsB (addd S u d) (u + 1) := by
  intro e v he hv
  unfold addd at hv
  by_cases c : e = d
  · subst c
    rw [pk_us, pbit_or, Bool.or_eq_true, pbit_shl hu] at hv
    rcases hv with hv | hv
    · have := h e v he hv; omega
    · have := of_decide_eq_true hv; omega
  · rw [pk_un c] at hv
    have := h e v he hv; omega
theorem addd_back {S : Nat → Int32} {u d : Nat} (h : SetsB S u) (hu : u < 32) (hd : d < 4) : upd (addd S u d) d ((addd S u d) d &&& (((1 : Int32) <<< (nI u &&& 31)) ^^^ (-1 : Int32))) = S := by
  funext e
  by_cases c : e = d
  · subst c
    rw [pk_us]
    unfold addd
    rw [pk_us]
    apply pbit_ext
    intro v hv
    rw [pbit_and, pbit_or, pbit_not _ hv, pbit_shl hu]
    by_cases q : u = v
    · subst q
      cases hb : pbit (S e) u with
      | true => exact absurd (h e u hd hb) (Nat.lt_irrefl u)
      | false => simp
    · rw [decide_eq_false q]; simp
  · rw [pk_un c]
    unfold addd
    rw [pk_un c]
theorem inR_bits {x : Int32} {N : Nat} (hN : N ≤ 9) (h : ∀ v, pbit x v = true → v < N) : inR x 512 := by
  have e : x = x &&& 511 := by
    apply pbit_ext
    intro v hv
    rw [pbit_and]
    have h5 : ∀ v : Fin 32, pbit 511 v.val = decide (v.val < 9) := by decide +kernel
    rw [h5 ⟨v, hv⟩]
    cases hb : pbit x v with
    | false => rfl
    | true => rw [decide_eq_true (show v < 9 by have := h v hb; omega)]; rfl
  have e2 : (x &&& 511).toNatClampNeg < 512 ∧ 0 ≤ (x &&& 511).toInt := by
    have hb : (x.toBitVec &&& 511#32).toNat ≤ 511 := by
      rw [BitVec.toNat_and]
      exact Nat.and_le_right
    have h1 : (x &&& 511).toInt = ((x.toBitVec &&& 511#32).toNat : Int) := by
      show (x.toBitVec &&& 511#32).toInt = _
      rw [BitVec.toInt_eq_toNat_of_lt (by omega)]
    refine ⟨?_, by omega⟩
    show (x &&& 511).toInt.toNat < 512
    rw [h1]; omega
  rw [e]
  refine ⟨e2.2, ?_⟩
  have : (x &&& 511).toInt.toNat < 512 := e2.1
  omega
theorem nm_eq {α : Type _} {β : Type _} (a : α) (f : α → β) : dc_nm a f = f a := rfl
theorem pX0_listFrom {poss : Nat → Int32} {n k : Nat} (hn : n ≤ 9) (hk0 : 1 ≤ k) (hk : k ≤ 4) : ∀ (r dd u used : Nat) (codes S : Nat → Int32) (sz : Nat) (c : Int32), u + r = n → r < dd → used ≤ k → SetsB S u → sz + cK k r used ≤ 7770 →
    fX0_listFrom dd codes poss S (nI sz) (nI k) (nI n) (nI u) (nI used) c = some (app codes sz (kM k poss r u S used c), S, nI (sz + (kM k poss r u S used c).length)) := by
  intro r
  induction r with
  | zero =>
    intro dd u used codes S sz c hu hd hus hS hz
    obtain ⟨dd, rfl⟩ : ∃ t, dd = t + 1 := ⟨dd - 1, by omega⟩
    have : u = n := by omega
    subst this
    rw [cK] at hz
    rw [fX0_listFrom, if_pos (nI_leS u (by omega)), pX0_keep hk hus (fun d hd => inR_bits hn (fun v => hS d v (by omega))) (fun e => by rw [if_pos e] at hz; omega), bind_s, kM]
    by_cases h : used = k ∧ posB poss S k = true
    · rw [if_pos h, if_pos h, app_one]; rfl
    · rw [if_neg h, if_neg h, app_nil]; rfl
  | succ r ih =>
    intro dd u used codes S sz c hu hd hus hS hz
    obtain ⟨dd, rfl⟩ : ∃ t, dd = t + 1 := ⟨dd - 1, by omega⟩
    rw [cK] at hz
    rw [fX0_listFrom, if_neg (nI_ge (show u < n by omega) (by omega)), if_pos (show nI u < (9 : Int32) from nI_lt (show u < 9 by omega) (by decide))]
    have ek : nI k - (1 : Int32) = nI (k - 1) := by
      rw [show nI k = nI (k - 1) + 1 by rw [nI_1, Nat.sub_add_cancel hk0]]
      simp
    have em : (if (nI k - (1 : Int32)) < nI used then (nI k - (1 : Int32)) else nI used) = nI (min used (k - 1)) := by
      rw [ek]
      by_cases h : k - 1 < used
      · rw [if_pos (nI_lt h (by omega)), Nat.min_eq_right (by omega)]
      · rw [if_neg (nI_nlt (by omega) (by omega)), Nat.min_eq_left (by omega)]
    rw [em, nm_eq]
    have key := upS (fun m i (s : (Nat → Int32) × Int32) => fX0_listFrom_L41 (fX0_listFrom dd) poss (nI k) (nI n) (nI u) (nI used) c (nI (min used (k - 1))) m (fun z1 z2 z3 => some (z1, z2, z3)) (nI i) s.1 S s.2) (fun i => (app codes sz (catF (fun d => kM k poss r (u + 1) (addd S u d) (max used (d + 1)) (codeI c u d)) 0 i), nI (sz + (catF (fun d => kM k poss r (u + 1) (addd S u d) (max used (d + 1)) (codeI c u d)) 0 i).length))) (min used (k - 1) + 1) (some (app codes sz (kM k poss (r + 1) u S used c), S, nI (sz + (kM k poss (r + 1) u S used c).length))) (fun m => ?_) (fun m i hi => ?_) 1000000 (by omega)
    · have e0 : app codes sz (catF (fun d => kM k poss r (u + 1) (addd S u d) (max used (d + 1)) (codeI c u d)) 0 0) = codes := app_nil
      simp only [e0] at key
      exact key
    · show fX0_listFrom_L41 (fX0_listFrom dd) poss (nI k) (nI n) (nI u) (nI used) c (nI (min used (k - 1))) (m + 1) _ (nI (min used (k - 1) + 1)) _ S _ = _
      rw [fX0_listFrom_L41, if_pos (nI_lt (by omega) (by omega))]; rfl
    · show fX0_listFrom_L41 (fX0_listFrom dd) poss (nI k) (nI n) (nI u) (nI used) c (nI (min used (k - 1))) (m + 1) _ (nI i) _ S _ = fX0_listFrom_L41 (fX0_listFrom dd) poss (nI k) (nI n) (nI u) (nI used) c (nI (min used (k - 1))) m _ (nI (i + 1)) _ S _
      have h4 : i < 4 := by omega
      have h1 : (catF (fun d => kM k poss r (u + 1) (addd S u d) (max used (d + 1)) (codeI c u d)) 0 i).length ≤ sumF (fun d => cK k r (max used (d + 1))) 0 i := catF_le (fun d => kM_len r _ _ _ _) _ _
      have h2 : sumF (fun d => cK k r (max used (d + 1))) 0 (i + 1) ≤ sumF (fun d => cK k r (max used (d + 1))) 0 (min used (k - 1) + 1) := sumF_mono (by omega)
      rw [sumF_snoc, Nat.zero_add] at h2
      have emx : (if nI used < nI i + (1 : Int32) then nI i + (1 : Int32) else nI used) = nI (max used (i + 1)) := by
        rw [nI_1]
        by_cases h : used < i + 1
        · rw [if_pos (nI_lt h (by omega)), Nat.max_eq_right (by omega)]
        · rw [if_neg (nI_nlt (by omega) (by omega)), Nat.max_eq_left (by omega)]
      have hrec := ih dd (u + 1) (max used (i + 1)) (app codes sz (catF (fun d => kM k poss r (u + 1) (addd S u d) (max used (d + 1)) (codeI c u d)) 0 i)) (addd S u i) (sz + (catF (fun d => kM k poss r (u + 1) (addd S u d) (max used (d + 1)) (codeI c u d)) 0 i).length) (codeI c u i) (by omega) (by omega) (by omega) (hS.add (by omega)) (by omega)
      rw [fX0_listFrom_L41, if_neg (nI_nlt (show i ≤ min used (k - 1) by omega) (by omega)), if_pos ((inR_nI (by omega)).mpr h4), if_pos ((inR_nI (by omega)).mpr h4), emx, nI_1, nI_clamp (by omega)]
      show (fX0_listFrom dd _ poss (addd S u i) _ (nI k) (nI n) (nI (u + 1)) (nI (max used (i + 1))) (codeI c u i)).bind _ = _
      rw [nI_1, hrec, bind_s, if_pos ((inR_nI (by omega)).mpr h4), if_pos ((inR_nI (by omega)).mpr h4), addd_back hS (by omega) h4, catF_snoc, app_app, List.length_append, Nat.zero_add, ← Nat.add_assoc]
