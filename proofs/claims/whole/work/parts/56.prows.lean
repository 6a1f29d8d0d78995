/-! the class's list is the lawful rows -/
def addsS : Nat → (Nat → Int32) → List Nat → Nat → Int32
  | _, S, [] => S
  | u, S, d :: t => addsS (u + 1) (addd S u d) t
def usedW : Nat → List Nat → Nat
  | used, [] => used
  | used, d :: t => usedW (max used (d + 1)) t
def codeL : Nat → Int32 → List Nat → Int32
  | _, c, [] => c
  | u, c, d :: t => codeL (u + 1) (codeI c u d) t
def keepB (k : Nat) (poss : Nat → Int32) (u : Nat) (S : Nat → Int32) (used : Nat) (t : List Nat) : Bool := decide (usedW used t = k ∧ posB poss (addsS u S t) k = true)
theorem catF_filter {α : Type} {f : Nat → List α} {p : α → Bool} : ∀ {c d : Nat}, (catF f d c).filter p = catF (fun e => (f e).filter p) d c
  | 0, _ => rfl
  | c + 1, d => by rw [catF, catF, List.filter_append, catF_filter]
theorem catF_mapp {α β : Type} {f : Nat → List α} {p : α → β} : ∀ {c d : Nat}, (catF f d c).map p = catF (fun e => (f e).map p) d c
  | 0, _ => rfl
  | c + 1, d => by rw [catF, catF, List.map_append, catF_mapp]
theorem catF_congr {α : Type} {f g : Nat → List α} (h : ∀ e, f e = g e) : ∀ {c d : Nat}, catF f d c = catF g d c
  | 0, _ => rfl
  | c + 1, d => by rw [catF, catF, h d, catF_congr h]
theorem kM_eq {k : Nat} {poss : Nat → Int32} : ∀ (r u : Nat) (S : Nat → Int32) (used : Nat) (c : Int32), kM k poss r u S used c = ((genL k r used).filter (keepB k poss u S used)).map (codeL u c)
  | 0, u, S, used, c => by
    rw [kM, genL]
    by_cases h : used = k ∧ posB poss S k = true
    · rw [if_pos h, List.filter_cons_of_pos (show keepB k poss u S used [] = true from decide_eq_true h)]; rfl
    · rw [if_neg h, List.filter_cons_of_neg (by rw [show keepB k poss u S used [] = false from decide_eq_false h]; decide)]; rfl
  | r + 1, u, S, used, c => by
    rw [kM, genL, catF_filter, catF_mapp]
    refine catF_congr fun d => ?_
    rw [kM_eq r, List.filter_map, List.map_map]; rfl
theorem addsS_bit {e v : Nat} : ∀ {t : List Nat} {u : Nat} {S : Nat → Int32}, u + t.length ≤ 32 → (pbit (addsS u S t e) v = true ↔ pbit (S e) v = true ∨ (u ≤ v ∧ v < u + t.length ∧ t.getD (v - u) 0 = e))
  | [], u, S, h => by
    rw [addsS]
    constructor
    · exact Or.inl
    · rintro (h1 | ⟨h1, h2, -⟩)
      · exact h1
      · rw [List.length_nil] at h2; omega
  | d :: t, u, S, h => by
    rw [List.length_cons] at h
    rw [addsS, addsS_bit (by omega), List.length_cons]
    unfold addd
    have key : pbit (upd S d (S d ||| (1 : Int32) <<< (nI u &&& 31)) e) v = true ↔ pbit (S e) v = true ∨ (e = d ∧ u = v) := by
      by_cases c : e = d
      · subst c
        rw [pk_us, pbit_or, Bool.or_eq_true, pbit_shl (by omega), decide_eq_true_eq]
        exact or_congr Iff.rfl ⟨fun q => ⟨rfl, q⟩, fun q => q.2⟩
      · rw [pk_un c]
        exact ⟨Or.inl, fun q => q.elim id fun q => absurd q.1 c⟩
    rw [key]
    constructor
    · rintro ((h1 | ⟨rfl, rfl⟩) | ⟨h1, h2, h3⟩)
      · exact Or.inl h1
      · exact Or.inr ⟨Nat.le_refl _, by omega, by rw [Nat.sub_self]; rfl⟩
      · refine Or.inr ⟨by omega, by omega, ?_⟩
        rw [show v - u = (v - (u + 1)) + 1 by omega, List.getD_cons_succ]
        exact h3
    · rintro (h1 | ⟨h1, h2, h3⟩)
      · exact Or.inl (Or.inl h1)
      · by_cases q : u = v
        · subst q
          rw [Nat.sub_self] at h3
          exact Or.inl (Or.inr ⟨h3.symm, rfl⟩)
        · refine Or.inr ⟨by omega, by omega, ?_⟩
          rw [show v - u = (v - (u + 1)) + 1 by omega, List.getD_cons_succ] at h3
          exact h3
theorem addsS_set {n d : Nat} {q S : Nat → Int32} {t : List Nat} (hn : n ≤ 12) (hl : t.length = n) (ht : ∀ d ∈ t, d < 4) (hd : d < 4) (h0 : S d = 0) : addsS 0 S t d = setS n (arL q t) d := by
  apply pbit_ext
  intro v _
  rw [Bool.eq_iff_iff, addsS_bit (by omega), pbit_mkS (by omega), decide_eq_true_eq, h0, pbit_0]
  have e : v < n → arL q t v = nI (t.getD v 0) := fun h => if_pos (by omega)
  have h4 := getD_lt (k := 4) (by omega) ht v
  constructor
  · rintro (h | ⟨-, h1, h2⟩)
    · cases h
    · rw [Nat.sub_zero] at h2
      exact ⟨by omega, by rw [e (by omega), h2]⟩
  · rintro ⟨h1, h2⟩
    refine Or.inr ⟨by omega, by omega, ?_⟩
    rw [e h1] at h2
    rw [Nat.sub_zero]
    exact nI_inj (by omega) (by omega) h2
theorem usedW_le {k : Nat} : ∀ {t : List Nat} {used : Nat}, used ≤ k → (∀ d ∈ t, d < k) → usedW used t ≤ k
  | [], _, h, _ => h
  | d :: t, used, h, hd => by
    rw [usedW]
    have := hd d List.mem_cons_self
    exact usedW_le (by omega) fun e he => hd e (List.mem_cons_of_mem _ he)
theorem usedW_ge0 : ∀ {t : List Nat} {used : Nat}, used ≤ usedW used t
  | [], used => Nat.le_refl used
  | d :: t, used => by
    rw [usedW]
    exact Nat.le_trans (Nat.le_max_left _ _) usedW_ge0
theorem usedW_ge {e : Nat} : ∀ {t : List Nat} {used : Nat}, e ∈ t → e < usedW used t
  | [], _, h => by cases h
  | d :: t, used, h => by
    rw [usedW]
    rcases List.mem_cons.mp h with rfl | h
    · exact Nat.lt_of_lt_of_le (by omega) usedW_ge0
    · exact usedW_ge h
/-! a set that may be a district -/
def okP (n k : Nat) (g : Nat → Int32) (s : Int32) : Prop := s ≠ 0 ∧ 100 * offS n (nI k) (fun u => g (5 * u)) s ≤ g 206 * sumI n (fun u => g (5 * u)) ∧ (∀ c, c < 4 → cutsB s (mkS n (coreB g c)) = false) ∧ reachS n (nbS n g) s = s
noncomputable def okS (n k : Nat) (g : Nat → Int32) (s : Int32) : Bool := @decide (okP n k g s) (Classical.propDecidable _)
theorem okS_iff {n k : Nat} {g : Nat → Int32} {s : Int32} : okS n k g s = true ↔ okP n k g s := by
  unfold okS
  exact @decide_eq_true_iff _ (Classical.propDecidable _)
theorem and_cm (a b : Int32) : a &&& b = b &&& a := by
  apply pbit_ext; intro u _; rw [pbit_and, pbit_and, Bool.and_comm]
theorem reasS_0 {n k : Nat} {g plan : Nat → Int32} (hn : n ≤ 12) (hk : k ≤ 4) (hp : PlanM n k plan) : (reasS n k g plan).1 = 0 ↔ ∀ d, d < k → okS n k g (setS n plan d) = true := by
  have hc : ∀ c, twoB n plan (coreB g c) = false ↔ ∀ d, d < k → cutsB (setS n plan d) (mkS n (coreB g c)) = false := by
    intro c
    rw [twoB_false, ← cuts_iff (sets := setS n plan) hn hk hp (fun d _ => rfl)]
    constructor
    · intro h d hd
      cases hb : cutsB (setS n plan d) (mkS n (coreB g c)) with
      | false => rfl
      | true =>
        unfold cutsB at hb
        rw [Bool.and_eq_true, decide_eq_true_eq, decide_eq_true_eq, and_cm] at hb
        exact absurd ⟨d, by omega, hb.1, hb.2⟩ h
    · rintro h ⟨d, hd, h1, h2⟩
      rcases Nat.lt_or_ge d k with q | q
      · have := h d q
        unfold cutsB at this
        rw [and_cm, decide_eq_true h1, decide_eq_true h2] at this
        cases this
      · obtain ⟨u, hu⟩ := ne0_bit h1
        rw [pbit_and, Bool.and_eq_true, pbit_mkS (by omega)] at hu
        obtain ⟨d', hd', e⟩ := hp u hu.1.1
        have := of_decide_eq_true hu.1.2
        have := nI_inj (by omega) (by omega) (this.symm.trans e)
        omega
  have hall : (∀ d, d < k → okS n k g (setS n plan d) = true) ↔ ((∀ d, d < k → tE n plan d = false) ∧ (∀ d, d < k → tC n g plan d = false) ∧ (∀ c, c < 4 → tK n g plan c = false) ∧ ∀ d, d < k → tB n k g plan d = false) := by
    constructor
    · intro h
      have h : ∀ d, d < k → okP n k g (setS n plan d) := fun d hd => okS_iff.mp (h d hd)
      refine ⟨fun d hd => decide_eq_false (h d hd).1, fun d hd => decide_eq_false (fun q => q (h d hd).2.2.2), fun c hc' => (hc c).mpr fun d hd => (h d hd).2.2.1 c hc', fun d hd => decide_eq_false (fun q => q (h d hd).2.1)⟩
    · rintro ⟨h1, h2, h3, h4⟩ d hd
      exact okS_iff.mpr ⟨of_decide_eq_false (h1 d hd), Decidable.not_not.mp (of_decide_eq_false (h4 d hd)), fun c hc' => (hc c).mp (h3 c hc') d hd, Decidable.not_not.mp (of_decide_eq_false (h2 d hd))⟩
  rw [hall]
  unfold reasS
  constructor
  · intro h
    cases e1 : fstP k (tE n plan) with
    | some d => rw [e1] at h; exact absurd h (by decide : ¬ (1 : Int32) = 0)
    | none =>
      rw [e1] at h
      cases e2 : fstP k (tC n g plan) with
      | some d => rw [e2] at h; exact absurd h (by decide : ¬ (2 : Int32) = 0)
      | none =>
        rw [e2] at h
        cases e3 : fstP 4 (tK n g plan) with
        | some d => rw [e3] at h; exact absurd h (by decide : ¬ (3 : Int32) = 0)
        | none =>
          rw [e3] at h
          cases e4 : fstP k (tB n k g plan) with
          | some d => rw [e4] at h; exact absurd h (by decide : ¬ (4 : Int32) = 0)
          | none => exact ⟨fun d hd => fstP_none e1 hd, fun d hd => fstP_none e2 hd, fun d hd => fstP_none e3 hd, fun d hd => fstP_none e4 hd⟩
  · rintro ⟨h1, h2, h3, h4⟩
    have nn : ∀ {m : Nat} {p : Nat → Bool}, (∀ d, d < m → p d = false) → fstP m p = none := by
      intro m p h
      cases e : fstP m p with
      | none => rfl
      | some d =>
        obtain ⟨a, b⟩ := fstP_lt e
        rw [h d a] at b; cases b
    rw [nn h1, nn h2, nn h3, nn h4]; rfl
/-- what the class knows of its sets -/
def PossR (n k : Nat) (g poss : Nat → Int32) : Prop := ∀ s, s < 2 ^ n → (poss s = if okS n k g (nI s) then 1 else 0)
theorem set_nI {n : Nat} (hn : n ≤ 9) {s : Int32} (h : ∀ v, pbit s v = true → v < n) : s.toNatClampNeg < 2 ^ n ∧ nI s.toNatClampNeg = s := by
  obtain ⟨j, hj, rfl⟩ := inR_of (inR_bits hn h) (by decide)
  rw [nI_clamp (by omega)]
  refine ⟨?_, rfl⟩
  have key : ∀ (n : Fin 10) (j : Fin 512), (∀ v : Fin 9, pbit (nI j.val) v.val = true → v.val < n.val) → j.val < 2 ^ n.val := by decide +kernel
  exact key ⟨n, by omega⟩ ⟨j, hj⟩ fun v hv => h v.val hv
theorem PossR.at {n k : Nat} {g poss : Nat → Int32} (h : PossR n k g poss) (hn : n ≤ 9) {s : Int32} (hs : ∀ v, pbit s v = true → v < n) : poss s.toNatClampNeg = if okS n k g s then 1 else 0 := by
  obtain ⟨h1, h2⟩ := set_nI hn hs
  rw [h _ h1, h2]
theorem keep_law {n k : Nat} {g poss S : Nat → Int32} {t : List Nat} (hS : ∀ d, d < 4 → S d = 0) (hP : PossR n k g poss) (hn : n ≤ 9) (hk0 : 1 ≤ k) (hk : k ≤ 4) (ht : t ∈ genL k n 0) : keepB k poss 0 S 0 t = lawL n k g t := by
  obtain ⟨hl, hd⟩ := genL_ok hk0 ht
  have hm := arL_m (q := fun _ => 0) (n := n) (k := k) (by omega) hl hd
  have hset : ∀ d, d < k → addsS 0 S t d = setS n (arL (fun _ => 0) t) d := fun d h => addsS_set (by omega) hl (fun e he => Nat.lt_of_lt_of_le (hd e he) hk) (by omega) (hS d (by omega))
  have hb : ∀ d v, pbit (setS n (arL (fun _ => 0) t) d) v = true → v < n := fun d v h => ((pbit_mkS (by omega)).mp h).1
  rw [Bool.eq_iff_iff, lawL_iff (q := fun _ => 0) (by omega), reasS_0 (by omega) hk hm]
  unfold keepB posB
  rw [decide_eq_true_eq, decide_eq_true_eq]
  constructor
  · rintro ⟨-, h⟩ d hd'
    have := h d hd'
    rw [hset d hd', hP.at hn (hb d)] at this
    cases ho : okS n k g (setS n (arL (fun _ => 0) t) d) with
    | true => rfl
    | false => rw [ho, if_neg ff] at this; exact absurd rfl this
  · intro h
    refine ⟨Nat.le_antisymm (usedW_le (by omega) hd) ?_, fun d hd' => ?_⟩
    · have h1 := (okS_iff.mp (h (k - 1) (by omega))).1
      obtain ⟨u, hu⟩ := ne0_bit h1
      rw [pbit_mkS (by omega), decide_eq_true_eq] at hu
      obtain ⟨hu1, hu2⟩ := hu
      have e : arL (fun _ => 0) t u = nI (t.getD u 0) := if_pos (by omega)
      have h4 := getD_lt hk0 hd u
      rw [e] at hu2
      have := nI_inj (by omega) (by omega) hu2
      have hmem : k - 1 ∈ t := by
        rw [← this, List.getD_eq_getElem?_getD, List.getElem?_eq_getElem (by omega)]
        exact List.getElem_mem _
      have := usedW_ge (used := 0) hmem
      omega
    · rw [hset d hd', hP.at hn (hb d), h d hd', if_pos rfl]
      exact n10
theorem filter_cg {α : Type} {p q : α → Bool} : ∀ {l : List α}, (∀ x ∈ l, p x = q x) → l.filter p = l.filter q
  | [], _ => rfl
  | a :: l, h => by
    have h1 := h a List.mem_cons_self
    have h2 := filter_cg fun x hx => h x (List.mem_cons_of_mem _ hx)
    cases ha : p a with
    | true => rw [List.filter_cons_of_pos ha, List.filter_cons_of_pos (h1 ▸ ha), h2]
    | false => rw [List.filter_cons_of_neg (by rw [ha]; decide), List.filter_cons_of_neg (by rw [← h1, ha]; decide), h2]
theorem kM_law {n k : Nat} {g poss S : Nat → Int32} (hS : ∀ d, d < 4 → S d = 0) (hP : PossR n k g poss) (hn : n ≤ 9) (hk0 : 1 ≤ k) (hk : k ≤ 4) : kM k poss n 0 S 0 0 = (lawR n k g).map (codeL 0 0) := by
  rw [kM_eq]
  unfold lawR
  rw [filter_cg fun t ht => keep_law hS hP hn hk0 hk ht]
