/-! rows of districts in which a new one is the lowest that there was not: all of them in order, and the next one -/
def zer (r : Nat) : List Nat := List.replicate r 0
def catF {α : Type} (f : Nat → List α) : Nat → Nat → List α
  | _, 0 => []
  | d, c + 1 => f d ++ catF f (d + 1) c
def genL (k : Nat) : Nat → Nat → List (List Nat)
  | 0, _ => [[]]
  | r + 1, used => catF (fun d => (genL k r (max used (d + 1))).map (fun t => d :: t)) 0 (min used (k - 1) + 1)
def nxt (k : Nat) : Nat → List Nat → Option (List Nat)
  | _, [] => none
  | used, d :: t => match nxt k (max used (d + 1)) t with
    | some t' => some (d :: t')
    | none => if d + 1 ≤ min used (k - 1) then some ((d + 1) :: zer t.length) else none
def ChT {α : Type} (f : α → Option α) : List α → Option α → Prop
  | [], _ => False
  | [x], z => f x = z
  | x :: y :: l, z => f x = some y ∧ ChT f (y :: l) z
theorem ChT_app {α : Type} {f : α → Option α} {y : α} {l2 : List α} {z : Option α} (h2 : ChT f (y :: l2) z) : ∀ {l1 : List α}, ChT f l1 (some y) → ChT f (l1 ++ y :: l2) z
  | [], h => h.elim
  | [x], h => ⟨h, h2⟩
  | x :: x2 :: l, h => ⟨h.1, ChT_app (l1 := x2 :: l) h2 h.2⟩
theorem catF_mem {α : Type} {f : Nat → List α} {x : α} : ∀ {c d : Nat}, x ∈ catF f d c → ∃ e, d ≤ e ∧ e < d + c ∧ x ∈ f e
  | 0, _, h => by cases h
  | c + 1, d, h => by
    rw [catF, List.mem_append] at h
    rcases h with h | h
    · exact ⟨d, Nat.le_refl d, by omega, h⟩
    · obtain ⟨e, h1, h2, h3⟩ := catF_mem h
      exact ⟨e, by omega, by omega, h3⟩
theorem genL_ok {k : Nat} (hk : 1 ≤ k) : ∀ {r used : Nat} {x : List Nat}, x ∈ genL k r used → x.length = r ∧ ∀ d ∈ x, d < k
  | 0, used, x, h => by
    rw [genL, List.mem_singleton] at h
    subst h
    exact ⟨rfl, fun d hd => by cases hd⟩
  | r + 1, used, x, h => by
    rw [genL] at h
    obtain ⟨e, h1, h2, h3⟩ := catF_mem h
    obtain ⟨t, ht, rfl⟩ := List.mem_map.mp h3
    obtain ⟨a, b⟩ := genL_ok hk ht
    refine ⟨by rw [List.length_cons, a], fun d hd => ?_⟩
    rcases List.mem_cons.mp hd with rfl | hd
    · omega
    · exact b d hd
theorem ChT_map {k used d r : Nat} : ∀ {L : List (List Nat)}, (∀ t ∈ L, t.length = r) → ChT (nxt k (max used (d + 1))) L none → ChT (nxt k used) (L.map (fun t => d :: t)) (if d + 1 ≤ min used (k - 1) then some ((d + 1) :: zer r) else none)
  | [], _, h => h.elim
  | [t], hl, h => by
    show nxt k used (d :: t) = _
    have h : nxt k (max used (d + 1)) t = none := h
    rw [nxt, h, hl t List.mem_cons_self]
  | t :: t2 :: L, hl, h => by
    refine ⟨?_, ChT_map (L := t2 :: L) (fun q hq => hl q (List.mem_cons_of_mem _ hq)) h.2⟩
    show nxt k used (d :: t) = _
    rw [nxt, h.1]
theorem genL_chain {k : Nat} (hk : 1 ≤ k) : ∀ (r used : Nat), (∃ L, genL k r used = zer r :: L) ∧ ChT (nxt k used) (genL k r used) none
  | 0, used => ⟨⟨[], rfl⟩, by rw [genL]; rfl⟩
  | r + 1, used => by
    have key : ∀ c d, d + c = min used (k - 1) → (∃ L, catF (fun d => (genL k r (max used (d + 1))).map (fun t => d :: t)) d (c + 1) = (d :: zer r) :: L) ∧ ChT (nxt k used) (catF (fun d => (genL k r (max used (d + 1))).map (fun t => d :: t)) d (c + 1)) none := by
      intro c
      induction c with
      | zero =>
        intro d hd
        obtain ⟨⟨L, hL⟩, hC⟩ := genL_chain hk r (max used (d + 1))
        have h1 := ChT_map (used := used) (r := r) (fun t ht => (genL_ok hk ht).1) hC
        rw [if_neg (by omega)] at h1
        rw [catF, catF, List.append_nil]
        refine ⟨⟨L.map (fun t => d :: t), by rw [hL]; rfl⟩, h1⟩
      | succ c ih =>
        intro d hd
        obtain ⟨⟨L2, hL2⟩, hC2⟩ := ih (d + 1) (by omega)
        obtain ⟨⟨L, hL⟩, hC⟩ := genL_chain hk r (max used (d + 1))
        have h1 := ChT_map (used := used) (r := r) (fun t ht => (genL_ok hk ht).1) hC
        rw [if_pos (by omega)] at h1
        rw [catF]
        refine ⟨⟨L.map (fun t => d :: t) ++ catF (fun d => (genL k r (max used (d + 1))).map (fun t => d :: t)) (d + 1) (c + 1), by rw [hL]; rfl⟩, ?_⟩
        rw [hL2] at hC2 ⊢
        exact ChT_app hC2 h1
    obtain ⟨⟨L, h1⟩, h2⟩ := key (min used (k - 1)) 0 (by omega)
    rw [genL]
    exact ⟨⟨L, h1⟩, h2⟩
/-! the reference's next row -/
def usedAt (l : List Nat) : Nat → Nat
  | 0 => 0
  | i + 1 => max (usedAt l i) (l.getD i 0 + 1)
def mostN (l : List Nat) : Nat → Nat
  | 0 => 0
  | i + 1 => if l.getD i 0 ≤ mostN l i then mostN l i else l.getD i 0
theorem used_most (l : List Nat) : ∀ i, usedAt l (i + 1) = mostN l (i + 1) + 1
  | 0 => by
    show max 0 (l.getD 0 0 + 1) = (if l.getD 0 0 ≤ 0 then 0 else l.getD 0 0) + 1
    split <;> omega
  | i + 1 => by
    have ih := used_most l i
    rw [usedAt, mostN, ih]
    split <;> omega
theorem drop_cons {l : List Nat} {i : Nat} (h : i < l.length) : l.drop i = l.getD i 0 :: l.drop (i + 1) := by
  rw [List.drop_eq_getElem_cons h, List.getD_eq_getElem?_getD, List.getElem?_eq_getElem h]; rfl
theorem take_snoc {l : List Nat} {i : Nat} (h : i < l.length) : l.take (i + 1) = l.take i ++ [l.getD i 0] := by
  rw [List.take_succ, List.getElem?_eq_getElem h, List.getD_eq_getElem?_getD, List.getElem?_eq_getElem h]; rfl
theorem nxt_lift {k : Nat} {l t : List Nat} : ∀ {i : Nat}, i ≤ l.length → nxt k (usedAt l i) (l.drop i) = some t → nxt k 0 l = some (l.take i ++ t)
  | 0, _, h => by simpa [usedAt] using h
  | i + 1, hi, h => by
    have h1 : nxt k (usedAt l i) (l.drop i) = some (l.getD i 0 :: t) := by
      rw [drop_cons (by omega), nxt]
      show (match nxt k (usedAt l (i + 1)) (l.drop (i + 1)) with | some t' => some (l.getD i 0 :: t') | none => _) = _
      rw [h]
    rw [nxt_lift (by omega) h1, take_snoc (by omega), List.append_assoc]; rfl
/-- a row as the reference's array has it, with what lies behind its end -/
def arL (q : Nat → Int32) (l : List Nat) : Nat → Int32 := fun j => if j < 12 then nI (l.getD j 0) else q j
theorem mostN_lt {k : Nat} {l : List Nat} (hk : 1 ≤ k) (h : ∀ j, l.getD j 0 < k) : ∀ i, mostN l i < k
  | 0 => by show 0 < k; omega
  | i + 1 => by
    rw [mostN]
    split
    · exact mostN_lt hk h i
    · exact h i
theorem getD_lt {k : Nat} {l : List Nat} (hk : 1 ≤ k) (h : ∀ d ∈ l, d < k) (j : Nat) : l.getD j 0 < k := by
  rw [List.getD_eq_getElem?_getD]
  cases hj : l[j]? with
  | none => show 0 < k; omega
  | some d => exact h d (List.mem_of_getElem? hj)
theorem pX11_goesOn {g q : Nat → Int32} {n k : Nat} {l : List Nat} (hg : g 204 = nI n) (hn : n ≤ 12) (h1 : 1 ≤ n) (hgk : g 205 = nI k) (hk0 : 1 ≤ k) (hk : k ≤ 4) (hl : l.length = n) (hd : ∀ d ∈ l, d < k) : fX11_goesOn g (arL q l) = match nxt k 0 l with
    | some l' => some (1, arL q l')
    | none => some (0, arL q l) := by
  have hD := getD_lt hk0 hd
  have hM := mostN_lt hk0 hD
  have L19 : ∀ (i : Nat) (kf : Int32 → Option (Int32 × (Nat → Int32))), i < 12 → fX11_goesOn_L19 (nI i) (arL q l) 1000000 kf 0 0 = kf (nI (mostN l i)) := by
    intro i kf hi
    refine upS (fun m j s => fX11_goesOn_L19 (nI i) (arL q l) m kf s (nI j)) (fun j => nI (mostN l j)) i (kf (nI (mostN l i))) (fun m => ?_) (fun m j hj => ?_) 1000000 (by omega)
    · show fX11_goesOn_L19 (nI i) (arL q l) (m + 1) kf _ (nI i) = _
      rw [fX11_goesOn_L19, if_pos (nI_leS i (by omega))]
    · show fX11_goesOn_L19 (nI i) (arL q l) (m + 1) kf _ (nI j) = fX11_goesOn_L19 (nI i) (arL q l) m kf (nI (if l.getD j 0 ≤ mostN l j then mostN l j else l.getD j 0)) (nI (j + 1))
      have e : arL q l j = nI (l.getD j 0) := if_pos (by omega)
      have a1 := hD j
      have a2 := hM j
      rw [fX11_goesOn_L19, if_neg (nI_ge hj (by omega)), if_pos ((inR_nI (by omega)).mpr (by omega)), nI_clamp (by omega), e, nI_1]
      by_cases c : l.getD j 0 ≤ mostN l j
      · rw [if_pos c, if_pos (nI_le c (by omega))]
      · rw [if_neg c, if_neg (nI_ge (by omega) (by omega)), if_pos ((inR_nI (by omega)).mpr (by omega))]
  have L94 : ∀ (i : Nat) (p : Nat → Int32) (kf : (Nat → Int32) → Option (Int32 × (Nat → Int32))), i ≤ n → fX11_goesOn_L94 g 1000000 kf (nI i) p = kf (fun j => if i ≤ j ∧ j < n then 0 else p j) := by
    intro i p kf hi
    have h := upSF (fun m j s => fX11_goesOn_L94 g m kf (nI j) s) (fun e => fun j => if i ≤ j ∧ j < e then 0 else p j) i n hi (kf (fun j => if i ≤ j ∧ j < n then 0 else p j)) (fun m => ?_) (fun m j hj1 hj => ?_) 1000000 (by omega)
    · have e0 : (fun j => if i ≤ j ∧ j < i then 0 else p j) = p := funext fun j => if_neg (by omega)
      simp only [e0] at h
      exact h
    · show fX11_goesOn_L94 g (m + 1) kf (nI n) _ = _
      rw [fX11_goesOn_L94, k204, hg, if_pos (nI_leS n (by omega))]
    · show fX11_goesOn_L94 g (m + 1) kf (nI j) _ = fX11_goesOn_L94 g m kf (nI (j + 1)) (fun x => if i ≤ x ∧ x < j + 1 then 0 else p x)
      rw [fX11_goesOn_L94, k204, hg, if_neg (nI_ge hj (by omega)), if_pos ((inR_nI (by omega)).mpr (by omega)), nI_clamp (by omega), nI_1]
      congr 1
      funext x
      by_cases e : x = j
      · subst e; rw [pk_us, if_pos (by omega)]
      · rw [pk_un e]
        by_cases e2 : i ≤ x ∧ x < j
        · rw [if_pos e2, if_pos (by omega)]
        · rw [if_neg e2, if_neg (by omega)]
  have key : ∀ (i m : Nat), i < n → i < m → nxt k (usedAt l (i + 1)) (l.drop (i + 1)) = none → fX11_goesOn_L11 g m (fun z => some (0, z)) (nI i) (arL q l) = match nxt k 0 l with
    | some l' => some (1, arL q l')
    | none => some (0, arL q l) := by
    intro i
    induction i with
    | zero =>
      intro m hi hm hnx
      obtain ⟨m, rfl⟩ : ∃ t, m = t + 1 := ⟨m - 1, by omega⟩
      have e : nxt k 0 l = none := by
        have := drop_cons (l := l) (i := 0) (by omega)
        rw [List.drop_zero] at this
        rw [this, nxt]
        show (match nxt k (usedAt l 1) (l.drop 1) with | some t' => _ | none => _) = none
        rw [hnx]
        exact if_neg (by omega)
      rw [e, fX11_goesOn_L11, if_pos (show nI 0 ≤ 0 by decide)]
    | succ i ih =>
      intro m hi hm hnx
      obtain ⟨m, rfl⟩ : ∃ t, m = t + 1 := ⟨m - 1, by omega⟩
      have e : arL q l (i + 1) = nI (l.getD (i + 1) 0) := if_pos (by omega)
      have a1 := hD (i + 1)
      have a2 := hM (i + 1)
      have um := used_most l i
      rw [fX11_goesOn_L11, if_neg (nI_nle (by omega) (by omega)), L19 _ _ (by omega), if_pos ((inR_nI (by omega)).mpr (by omega)), nI_clamp (by omega), e, pk_m1]
      have hdr := drop_cons (l := l) (i := i + 1) (by omega)
      have hnx2 : nxt k (usedAt l (i + 1)) (l.drop (i + 1)) = if l.getD (i + 1) 0 + 1 ≤ min (usedAt l (i + 1)) (k - 1) then some ((l.getD (i + 1) 0 + 1) :: zer (l.drop (i + 2)).length) else none := by
        rw [hdr, nxt]
        show (match nxt k (usedAt l (i + 2)) (l.drop (i + 2)) with | some t' => _ | none => _) = _
        rw [hnx]
      by_cases c1 : mostN l (i + 1) < l.getD (i + 1) 0
      · rw [if_pos (nI_lt c1 (by omega))]
        exact ih m (by omega) (by omega) (by rw [hnx2]; exact if_neg (by omega))
      · rw [if_neg (nI_nlt (by omega) (by omega)), if_pos ((inR_nI (by omega)).mpr (by omega)), k205, hgk]
        have ek : nI k - 1 = nI (k - 1) := by
          obtain ⟨t, rfl⟩ : ∃ t, k = t + 1 := ⟨k - 1, by omega⟩
          exact nI_pred t
        rw [ek]
        by_cases c2 : k - 1 ≤ l.getD (i + 1) 0
        · rw [if_pos (nI_le c2 (by omega))]
          exact ih m (by omega) (by omega) (by rw [hnx2]; exact if_neg (by omega))
        · rw [if_neg (nI_ge (by omega) (by omega)), if_pos ((inR_nI (by omega)).mpr (by omega)), if_pos ((inR_nI (by omega)).mpr (by omega)), nI_1, L94 _ _ _ (by omega)]
          rw [if_pos (by omega)] at hnx2
          rw [nxt_lift (by omega) hnx2]
          show some _ = some _
          congr 2
          funext j
          have hlen : (l.drop (i + 2)).length = n - (i + 2) := by rw [List.length_drop, hl]
          have htk : (l.take (i + 1)).length = i + 1 := by rw [List.length_take, hl]; omega
          generalize l.getD (i + 1) 0 = c
          unfold arL
          rw [nI_1]
          by_cases j12 : j < 12
          · rw [if_pos j12, List.getD_eq_getElem?_getD, List.getElem?_append, htk]
            by_cases j1 : j < i + 1
            · rw [if_neg (by omega), pk_un (by omega), if_pos j12, if_pos j1, List.getElem?_take_of_lt j1, List.getD_eq_getElem?_getD]
            · rw [if_neg j1]
              by_cases j2 : j = i + 1
              · subst j2
                rw [if_neg (by omega), pk_us, Nat.sub_self]; rfl
              · obtain ⟨t, ht⟩ : ∃ t, j - (i + 1) = t + 1 := ⟨j - (i + 1) - 1, by omega⟩
                have ez : (((c + 1) :: zer (l.drop (i + 2)).length)[j - (i + 1)]?).getD 0 = 0 := by
                  rw [ht, List.getElem?_cons_succ]
                  unfold zer
                  rw [List.getElem?_replicate]
                  split <;> rfl
                rw [ez]
                by_cases j3 : j < n
                · rw [if_pos (by omega)]; rfl
                · rw [if_neg (by omega), pk_un j2, if_pos j12, List.getD_eq_getElem?_getD, List.getElem?_eq_none (by omega)]; rfl
          · rw [if_neg j12, if_neg (by omega), pk_un (by omega), if_neg j12]
  rw [fX11_goesOn, k204, hg]
  have en : nI n - 1 = nI (n - 1) := by
    obtain ⟨t, rfl⟩ : ∃ t, n = t + 1 := ⟨n - 1, by omega⟩
    exact nI_pred t
  rw [en]
  refine key (n - 1) 1000000 (by omega) (by omega) ?_
  rw [List.drop_eq_nil_of_le (by omega), nxt]
