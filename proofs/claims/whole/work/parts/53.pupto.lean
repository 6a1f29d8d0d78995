/-! the reference's count of plans up to a number -/
theorem setS_congr {n : Nat} {p q : Nat → Int32} (h : ∀ u, u < n → p u = q u) (d : Nat) : setS n p d = setS n q d := mkS_congr fun u hu => by rw [h u hu]
theorem twoP_congr {n : Nat} {p q : Nat → Int32} {f : Nat → Bool} (h : ∀ u, u < n → p u = q u) (hp : twoP n p f) : twoP n q f := by
  obtain ⟨u, v, hu, hv, a, b, c⟩ := hp
  exact ⟨u, v, hu, hv, a, b, by rw [← h u hu, ← h v hv]; exact c⟩
theorem twoB_congr {n : Nat} {p q : Nat → Int32} {f : Nat → Bool} (h : ∀ u, u < n → p u = q u) : twoB n p f = twoB n q f := by
  rw [Bool.eq_iff_iff, twoB_iff, twoB_iff]
  exact ⟨twoP_congr h, twoP_congr fun u hu => (h u hu).symm⟩
theorem reasS_congr {n k : Nat} {g p q : Nat → Int32} (h : ∀ u, u < n → p u = q u) : reasS n k g p = reasS n k g q := by
  have e1 : tE n p = tE n q := funext fun d => by unfold tE; rw [setS_congr h]
  have e2 : tC n g p = tC n g q := funext fun d => by unfold tC; rw [setS_congr h]
  have e3 : tK n g p = tK n g q := funext fun d => by unfold tK; rw [twoB_congr h]
  have e4 : tB n k g p = tB n k g q := funext fun d => by unfold tB; rw [setS_congr h]
  unfold reasS
  rw [e1, e2, e3, e4]
/-- a row is lawful -/
noncomputable def lawL (n k : Nat) (g : Nat → Int32) (l : List Nat) : Bool := decide ((reasS n k g (arL (fun _ => 0) l)).1 = 0)
theorem arL_at {q q' : Nat → Int32} {l : List Nat} {u : Nat} (hu : u < 12) : arL q l u = arL q' l u := by
  unfold arL
  rw [if_pos hu, if_pos hu]
theorem lawL_iff {n k : Nat} {g q : Nat → Int32} {l : List Nat} (hn : n ≤ 12) : lawL n k g l = true ↔ (reasS n k g (arL q l)).1 = 0 := by
  unfold lawL
  rw [decide_eq_true_eq, reasS_congr (p := arL (fun _ => 0) l) (q := arL q l) (fun u hu => arL_at (by omega))]
theorem arL_m {n k : Nat} {q : Nat → Int32} {l : List Nat} (hn : n ≤ 12) (hl : l.length = n) (hd : ∀ d ∈ l, d < k) : PlanM n k (arL q l) := by
  intro u hu
  refine ⟨l.getD u 0, ?_, if_pos (by omega)⟩
  rw [List.getD_eq_getElem?_getD, List.getElem?_eq_getElem (by omega)]
  exact hd _ (List.getElem_mem _)
theorem pX11_upTo_L8 {g q : Nat → Int32} {n k N : Nat} (hg : g 204 = nI n) (hn : n ≤ 12) (h1 : 1 ≤ n) (hgk : g 205 = nI k) (hk0 : 1 ≤ k) (hk : k ≤ 4) (hN : N < 2 ^ 30) (kf : Int32 → Int32 → (Nat → Int32) → Option (Int32 × Int32 × (Nat → Int32))) :
    ∀ (L : List (List Nat)) (x : List Nat) (c m : Nat) (dt : Int32), (∀ y ∈ x :: L, y.length = n ∧ ∀ d ∈ y, d < k) → ChT (nxt k 0) (x :: L) none → c ≤ N → 2 * L.length + 2 < m →
    ∃ (dt' : Int32) (y : List Nat), fX11_plansUpTo_L8 g (nI N) m kf (nI c) 1 dt (arL q x) = kf (nI (min (c + ((x :: L).filter (lawL n k g)).length) (N + 1))) dt' (arL q y) ∧ (N < c + ((x :: L).filter (lawL n k g)).length → ((x :: L).filter (lawL n k g))[N - c]? = some y) := by
  intro L
  induction L with
  | nil =>
    intro x c m dt hx hC hc hm
    obtain ⟨m, rfl⟩ : ∃ t, m = t + 2 := ⟨m - 2, by omega⟩
    obtain ⟨hl, hd⟩ := hx x List.mem_cons_self
    have hnx : nxt k 0 x = none := hC
    have hgo := pX11_goesOn (q := q) hg hn h1 hgk hk0 hk hl hd
    rw [hnx] at hgo
    have hgo : fX11_goesOn g (arL q x) = some (0, arL q x) := hgo
    rw [fX11_plansUpTo_L8, if_neg n10, pX11_reason hg hn hgk hk (arL_m hn hl hd), bind_s]
    cases hlw : lawL n k g x with
    | true =>
      have e := (lawL_iff (q := q) hn).mp hlw
      rw [if_pos e, nI_1, List.filter_cons_of_pos hlw]
      show ∃ dt' y, _ = kf (nI (min (c + 1) (N + 1))) dt' (arL q y) ∧ (N < c + 1 → ([x])[N - c]? = some y)
      by_cases e2 : N < c + 1
      · rw [if_pos (nI_lt e2 (by omega)), fX11_plansUpTo_L8, if_pos rfl]
        exact ⟨_, x, by rw [show min (c + 1) (N + 1) = c + 1 by omega], fun _ => by rw [show N - c = 0 by omega]; rfl⟩
      · rw [if_neg (nI_nlt (by omega) (by omega)), hgo, bind_s, if_pos rfl, fX11_plansUpTo_L8, if_pos rfl]
        exact ⟨_, x, by rw [show min (c + 1) (N + 1) = c + 1 by omega], fun q => absurd q e2⟩
    | false =>
      have e : ¬ (reasS n k g (arL q x)).1 = 0 := fun e => by rw [(lawL_iff hn).mpr e] at hlw; cases hlw
      rw [if_neg e, add_0, List.filter_cons_of_neg (by rw [hlw]; decide), if_neg (nI_nlt (by omega) (by omega)), hgo, bind_s, if_pos rfl, fX11_plansUpTo_L8, if_pos rfl]
      exact ⟨_, x, by rw [List.filter_nil, show min (c + ([] : List (List Nat)).length) (N + 1) = c by simp; omega], fun q => by simp at q; omega⟩
  | cons y L ih =>
    intro x c m dt hx hC hc hm
    obtain ⟨m, rfl⟩ : ∃ t, m = t + 2 := ⟨m - 2, by omega⟩
    rw [List.length_cons] at hm
    obtain ⟨hl, hd⟩ := hx x List.mem_cons_self
    have hnx : nxt k 0 x = some y := hC.1
    have hgo := pX11_goesOn (q := q) hg hn h1 hgk hk0 hk hl hd
    rw [hnx] at hgo
    have hgo : fX11_goesOn g (arL q x) = some (1, arL q y) := hgo
    rw [fX11_plansUpTo_L8, if_neg n10, pX11_reason hg hn hgk hk (arL_m hn hl hd), bind_s]
    cases hlw : lawL n k g x with
    | true =>
      have e := (lawL_iff (q := q) hn).mp hlw
      rw [if_pos e, nI_1, List.filter_cons_of_pos hlw, List.length_cons]
      by_cases e2 : N < c + 1
      · rw [if_pos (nI_lt e2 (by omega)), fX11_plansUpTo_L8, if_pos rfl]
        exact ⟨_, x, by rw [show min (c + (((y :: L).filter (lawL n k g)).length + 1)) (N + 1) = c + 1 by omega], fun _ => by rw [show N - c = 0 by omega]; rfl⟩
      · rw [if_neg (nI_nlt (by omega) (by omega)), hgo, bind_s, if_neg n10]
        obtain ⟨dt', z, e3, e4⟩ := ih y (c + 1) (m + 1) (if (reasS n k g (arL q x)).1 = 0 then dt else (reasS n k g (arL q x)).2) (fun w hw => hx w (List.mem_cons_of_mem _ hw)) hC.2 (by omega) (by omega)
        refine ⟨dt', z, ?_, fun q => ?_⟩
        · rw [show c + (((y :: L).filter (lawL n k g)).length + 1) = c + 1 + ((y :: L).filter (lawL n k g)).length by omega]
          exact e3
        · have := e4 (by omega)
          obtain ⟨t, ht⟩ : ∃ t, N - c = t + 1 := ⟨N - c - 1, by omega⟩
          rw [ht, List.getElem?_cons_succ, ← this]
          congr 1
          omega
    | false =>
      have e : ¬ (reasS n k g (arL q x)).1 = 0 := fun e => by rw [(lawL_iff hn).mpr e] at hlw; cases hlw
      rw [if_neg e, add_0, List.filter_cons_of_neg (by rw [hlw]; decide), if_neg (nI_nlt (by omega) (by omega)), hgo, bind_s, if_neg n10]
      exact ih y c (m + 1) _ (fun w hw => hx w (List.mem_cons_of_mem _ hw)) hC.2 hc (by omega)
/-! how many rows there are -/
def sumF (f : Nat → Nat) : Nat → Nat → Nat
  | _, 0 => 0
  | d, c + 1 => f d + sumF f (d + 1) c
theorem catF_len {α : Type} {f : Nat → List α} {h : Nat → Nat} (e : ∀ d, (f d).length = h d) : ∀ c d, (catF f d c).length = sumF h d c
  | 0, _ => rfl
  | c + 1, d => by rw [catF, sumF, List.length_append, e d, catF_len e c (d + 1)]
def lenG (k : Nat) : Nat → Nat → Nat
  | 0, _ => 1
  | r + 1, used => sumF (fun d => lenG k r (max used (d + 1))) 0 (min used (k - 1) + 1)
theorem genL_len {k : Nat} : ∀ r used, (genL k r used).length = lenG k r used
  | 0, _ => rfl
  | r + 1, used => by
    rw [genL, lenG]
    exact catF_len (fun d => by rw [List.length_map, genL_len r]) _ _
theorem lenG_le : ∀ n : Fin 10, ∀ k : Fin 5, lenG k.val n.val 0 ≤ 11051 := by decide +kernel
/-- the lawful rows in order -/
noncomputable def lawR (n k : Nat) (g : Nat → Int32) : List (List Nat) := (genL k n 0).filter (lawL n k g)
theorem lawR_le {n k : Nat} {g : Nat → Int32} (hn : n ≤ 9) (hk : k ≤ 4) : (lawR n k g).length ≤ 11051 := by
  have h1 := List.length_filter_le (lawL n k g) (genL k n 0)
  have h2 := lenG_le ⟨n, by omega⟩ ⟨k, by omega⟩
  rw [genL_len] at h1
  exact Nat.le_trans h1 h2
theorem pX11_begins {plan : Nat → Int32} {n : Nat} : fX11_begins plan = some (arL plan (zer n)) := by
  rw [fX11_begins]
  have h := upS (fun m i s => fX11_begins_L2 m (fun z => some z) (nI i) s) (fun i => fun j => if j < i then 0 else plan j) 12 (some (arL plan (zer n))) (fun m => ?_) (fun m i hi => ?_) 1000000 (by omega)
  · have e0 : (fun j => if j < 0 then 0 else plan j) = plan := funext fun j => if_neg (Nat.not_lt_zero j)
    simp only [e0] at h
    exact h
  · show fX11_begins_L2 (m + 1) _ (nI 12) _ = _
    rw [fX11_begins_L2, if_pos (show (12 : Int32) ≤ nI 12 by decide)]
    congr 1
    funext j
    unfold arL zer
    rw [List.getD_eq_getElem?_getD, List.getElem?_replicate]
    split
    · split <;> rfl
    · rfl
  · show fX11_begins_L2 (m + 1) _ (nI i) _ = fX11_begins_L2 m _ (nI (i + 1)) (fun j => if j < i + 1 then 0 else plan j)
    rw [fX11_begins_L2, if_neg (ge12 hi), if_pos ((inR_nI (by omega)).mpr hi), nI_clamp (by omega), nI_1]
    congr 1
    funext j
    by_cases e : j = i
    · subst e; rw [pk_us, if_pos (by omega)]
    · rw [pk_un e]
      by_cases e2 : j < i
      · rw [if_pos e2, if_pos (by omega)]
      · rw [if_neg e2, if_neg (by omega)]
theorem pX11_plansUpTo {g plan : Nat → Int32} {n k N : Nat} {dt : Int32} (hg : g 204 = nI n) (hn : n ≤ 9) (h1 : 1 ≤ n) (hgk : g 205 = nI k) (hk0 : 1 ≤ k) (hk : k ≤ 4) (hN : N < 2 ^ 30) : ∃ (dt' : Int32) (y : List Nat), fX11_plansUpTo dt g plan (nI N) = some (nI (min (lawR n k g).length (N + 1)), dt', arL plan y) ∧ (N < (lawR n k g).length → (lawR n k g)[N]? = some y) := by
  rw [fX11_plansUpTo, pX11_begins (n := n), bind_s]
  obtain ⟨⟨L, hL⟩, hC⟩ := genL_chain hk0 n 0
  have hlen := lenG_le ⟨n, by omega⟩ ⟨k, by omega⟩
  have hlen : lenG k n 0 ≤ 11051 := hlen
  rw [← genL_len, hL, List.length_cons] at hlen
  rw [hL] at hC
  obtain ⟨dt', y, e1, e2⟩ := pX11_upTo_L8 (q := plan) hg (by omega) h1 hgk hk0 hk hN (fun z1 z2 z3 => some (z1, z2, z3)) L (zer n) 0 1000000 dt (fun w hw => genL_ok hk0 (by rw [hL]; exact hw)) hC (by omega) (by omega)
  unfold lawR
  rw [hL]
  rw [Nat.zero_add] at e1 e2
  exact ⟨dt', y, e1, e2⟩
