/-! the catalog: a plan of the list, the list itself -/
theorem pJ7_fill {len : Nat} (hl : len < 1000) {p : Nat → Int32} {x : Int32} : fJ7_fill_53178 len p x = some (fun j => if j < len then x else p j) := by
  rw [fJ7_fill_53178]
  have key := upS (fun m i s => fJ7_fill_53178_L5 len x (Int32.ofNat len) m (fun z => some z) (nI i) s) (fun i => fun j => if j < i then x else p j) len (some (fun j => if j < len then x else p j)) (fun m => ?_) (fun m i hi => ?_) 1000000 (by omega)
  · have e0 : (fun j => if j < 0 then x else p j) = p := funext fun s => if_neg (by omega)
    simp only [e0] at key
    exact key
  · show fJ7_fill_53178_L5 len x (nI len) (m + 1) _ (nI len) _ = _
    rw [fJ7_fill_53178_L5, if_pos (nI_leS len (by omega))]
  · show fJ7_fill_53178_L5 len x (nI len) (m + 1) _ (nI i) _ = fJ7_fill_53178_L5 len x (nI len) m _ (nI (i + 1)) (fun j => if j < i + 1 then x else p j)
    rw [fJ7_fill_53178_L5, if_neg (nI_ge hi (by omega)), if_pos ((inR_nI (by omega)).mpr hi), nI_clamp (by omega), nI_1]
    congr 1
    funext j
    by_cases e : j = i
    · subst e; rw [pk_us, if_pos (Nat.lt_succ_self j)]
    · rw [pk_un e]
      by_cases e2 : j < i
      · rw [if_pos e2, if_pos (show j < i + 1 by omega)]
      · rw [if_neg e2, if_neg (show ¬ j < i + 1 by omega)]
/-- the list as the class has it -/
def ListR (n k : Nat) (g codes : Nat → Int32) (size : Int32) : Prop := size = nI (lawR n k g).length ∧ ∀ i, i < (lawR n k g).length → codes i = codeL 0 0 ((lawR n k g).getD i [])
theorem lawR_mem {n k : Nat} {g : Nat → Int32} {t : List Nat} (hk0 : 1 ≤ k) (h : t ∈ lawR n k g) : t.length = n ∧ (∀ d ∈ t, d < k) ∧ lawL n k g t = true := by
  unfold lawR at h
  rw [List.mem_filter] at h
  exact ⟨(genL_ok hk0 h.1).1, (genL_ok hk0 h.1).2, h.2⟩
theorem lawR_at {n k : Nat} {g : Nat → Int32} {i : Nat} (h : i < (lawR n k g).length) : (lawR n k g).getD i [] ∈ lawR n k g := by
  rw [List.getD_eq_getElem?_getD, List.getElem?_eq_getElem h]
  exact List.getElem_mem _
/-- of a plan that is laid down unit by unit -/
def layI (t : List Nat) (i : Nat) (p s : Nat → Int32) : Prop := (∀ j, j < 12 → p j = if j < i then nI (t.getD j 0) else 0) ∧ ∀ d, d < 4 → ∀ v, pbit (s d) v = (decide (v < i) && decide (t.getD v 0 = d))
theorem lay_plan {t : List Nat} {n k : Nat} {p s q : Nat → Int32} (hn : n ≤ 12) (hk : k ≤ 4) (hl : t.length = n) (ht : ∀ d ∈ t, d < k) (hk0 : 1 ≤ k) (h : layI t n p s) : PlanR n k p s (arL q t) := by
  have e : ∀ u, u < n → arL q t u = nI (t.getD u 0) := fun u hu => if_pos (by omega)
  refine ⟨fun u hu => ⟨?_, t.getD u 0, getD_lt hk0 ht u, e u hu⟩, fun d hd => ?_⟩
  · rw [e u hu, h.1 u (by omega), if_pos hu]
  · apply pbit_ext
    intro v _
    rw [h.2 d hd v, pbit_mkS' (by omega)]
    by_cases hv : v < n
    · rw [decide_eq_true hv, Bool.true_and, Bool.true_and, e v hv]
      have := getD_lt hk0 ht v
      by_cases c : t.getD v 0 = d
      · rw [decide_eq_true c, decide_eq_true (by rw [c])]
      · rw [decide_eq_false c, decide_eq_false (fun q => c (nI_inj (by omega) (by omega) q))]
    · rw [decide_eq_false hv, Bool.false_and, Bool.false_and]
theorem lay_give {t : List Nat} {i d : Nat} {p s : Nat → Int32} (hi : i < 12) (hd : t.getD i 0 = d) (hd4 : d < 4) (h : layI t i p s) : ∃ p' s', fX4_give p s (nI i) (nI d) = some (p', s') ∧ layI t (i + 1) p' s' := by
  have h0 : p i = nI 0 := by rw [h.1 i hi, if_neg (Nat.lt_irrefl i)]; rfl
  have hno : ∀ e, e < 4 → pbit (s e) i = false := fun e he => by rw [h.2 e he i, decide_eq_false (Nat.lt_irrefl i), Bool.false_and]
  refine ⟨_, _, pX4_giveE hi h0 (by decide) hd4, fun j hj => ?_, fun e he v => ?_⟩
  · by_cases c : j = i
    · subst c; rw [pk_us, if_pos (Nat.lt_succ_self j), hd]
    · rw [pk_un c, h.1 j hj]
      by_cases c2 : j < i
      · rw [if_pos c2, if_pos (show j < i + 1 by omega)]
      · rw [if_neg c2, if_neg (show ¬ j < i + 1 by omega)]
  · rw [giveF_bit (by omega) (fun q => by rw [hno e he] at q; cases q)]
    by_cases c : v = i
    · subst c
      rw [if_pos rfl, decide_eq_true (Nat.lt_succ_self v), Bool.true_and, hd]
      by_cases c3 : e = d
      · rw [decide_eq_true c3, decide_eq_true c3.symm]
      · rw [decide_eq_false c3, decide_eq_false (fun q => c3 q.symm)]
    · rw [if_neg c, h.2 e he v]
      by_cases c2 : v < i
      · rw [decide_eq_true c2, decide_eq_true (show v < i + 1 by omega)]
      · rw [decide_eq_false c2, decide_eq_false (show ¬ v < i + 1 by omega)]
theorem pX0_copyPlan {n k : Nat} {g codes p0 s0 q : Nat → Int32} {size : Int32} (hn : n ≤ 9) (hk0 : 1 ≤ k) (hk : k ≤ 4) (hL : ListR n k g codes size) {i : Nat} (hi : i < (lawR n k g).length) (h7 : (lawR n k g).length ≤ 7770) : ∃ p s, fX0_copyPlan (nI n) p0 s0 codes size (nI i) = some (p, s) ∧ PlanR n k p s (arL q ((lawR n k g).getD i [])) := by
  obtain ⟨h1, h2⟩ := hL
  obtain ⟨hl, hd, -⟩ := lawR_mem hk0 (lawR_at hi)
  have hc := h2 i hi
  generalize (lawR n k g).getD i [] = t at hl hd hc ⊢
  have hd4 : ∀ d ∈ t, d < 4 := fun d h => Nat.lt_of_lt_of_le (hd d h) hk
  have hD := getD_lt (k := 4) (by decide) hd4
  rw [fX0_copyPlan, fX4_clear, pJ7_fill (by decide), bind_s, pJ7_fill (by decide), bind_s, bind_s, if_neg (show ¬ nI i < (0 : Int32) from nI_nlt (Nat.zero_le i) (by omega)), h1, if_pos (nI_lt hi (by omega))]
  obtain ⟨⟨p, s⟩, hI, e⟩ := upI (fun m j (s : (Nat → Int32) × (Nat → Int32)) => fX0_copyPlan_L20 (nI n) codes (nI i) m (fun z1 z2 => some (z1, z2)) (nI j) s.1 s.2) (fun s => some s) (fun j s => layI t j s.1 s.2) 0 n (Nat.zero_le n) (fun m s _ => by
      show fX0_copyPlan_L20 (nI n) codes (nI i) (m + 1) _ (nI n) _ _ = _
      rw [fX0_copyPlan_L20, if_pos (nI_leS n (by omega))]) (fun m j s _ hj hI => by
      have ed : ((codes i >>> (((2 : Int32) * nI j) &&& 31)) &&& (3 : Int32)) = nI (t.getD j 0) := by
        show decI (codes i) j = _
        rw [hc, codeL_at (by omega) hd4 (fun v hv => by rw [pbit_0] at hv; cases hv) (Nat.zero_le j) (by omega), Nat.sub_zero]
      obtain ⟨p', s', e1, e2⟩ := lay_give (by omega) rfl (hD j) hI
      refine ⟨(p', s'), e2, ?_⟩
      show fX0_copyPlan_L20 (nI n) codes (nI i) (m + 1) _ (nI j) _ _ = _
      rw [fX0_copyPlan_L20, if_neg (nI_ge hj (by omega)), if_pos ((inR_nI (by omega)).mpr (by omega)), nI_clamp (by omega), ed, e1, bind_s, nI_1]) 1000000 ((fun j => if j < 12 then 0 else p0 j), fun j => if j < 4 then 0 else s0 j) (by omega) ⟨fun j hj => by
      show (if j < 12 then (0 : Int32) else p0 j) = _
      rw [if_pos hj, if_neg (Nat.not_lt_zero j)], fun d hd v => by
      show pbit (if d < 4 then (0 : Int32) else s0 d) v = _
      rw [if_pos hd, pbit_0, decide_eq_false (Nat.not_lt_zero v), Bool.false_and]⟩
  exact ⟨p, s, e, lay_plan (by omega) hk hl hd hk0 hI⟩
/-- what the catalog knows -/
def CatR (n k : Nat) (g : Nat → Int32) (hasSets : Int32) (poss : Nat → Int32) (hasPlans : Int32) (codes : Nat → Int32) (size : Int32) : Prop := (hasSets ≠ 0 → n ≤ 9 ∧ PossR n k g poss) ∧ (hasPlans ≠ 0 → n ≤ 9 ∧ ListR n k g codes size)
theorem lawR_7770 {n k : Nat} {g poss : Nat → Int32} (hP : PossR n k g poss) (hn : n ≤ 9) (hk0 : 1 ≤ k) (hk : k ≤ 4) : (lawR n k g).length ≤ 7770 := by
  have h1 := kM_law (S := fun _ => 0) (fun _ _ => rfl) hP hn hk0 hk
  have h2 := kM_len (k := k) (poss := poss) n 0 (fun _ => 0) 0 0
  rw [h1, List.length_map] at h2
  exact Nat.le_trans h2 (cK_le ⟨n, by omega⟩ ⟨k, by omega⟩)
theorem poss_ex (n k : Nat) (g : Nat → Int32) : ∃ poss, PossR n k g poss := ⟨fun s => if okS n k g (nI s) then 1 else 0, fun _ _ => rfl⟩
theorem lawR_cap {n k : Nat} {g : Nat → Int32} (hn : n ≤ 9) (hk0 : 1 ≤ k) (hk : k ≤ 4) : (lawR n k g).length ≤ 7770 := by
  obtain ⟨poss, h⟩ := poss_ex n k g
  exact lawR_7770 h hn hk0 hk
theorem pX0_sets {g pop area com outer nb len poss : Nat → Int32} {n k : Nat} {cores hs : Int32} (h : MapR g n pop area com outer nb len cores) (hn : n ≤ 9) (hc : hs ≠ 0 → PossR n k g poss) : ∃ hs' poss', fX0_findSets com cores (nI k) nb pop (g 206) (nI n) hs poss = some (hs', poss') ∧ hs' ≠ 0 ∧ PossR n k g poss' := by
  by_cases e : hs = 0
  · subst e
    obtain ⟨poss', e1, e2⟩ := pX0_findSets (k := k) (poss := poss) h hn
    exact ⟨1, poss', e1, n10, e2⟩
  · refine ⟨hs, poss, ?_, e, hc e⟩
    rw [fX0_findSets, if_neg e]
theorem pX0_countPlans {g pop area com outer nb len poss codes sets : Nat → Int32} {n k : Nat} {cores hs hp size : Int32} (h : MapR g n pop area com outer nb len cores) (hn : n ≤ 9) (hk0 : 1 ≤ k) (hk : k ≤ 4) (hc : CatR n k g hs poss hp codes size) : ∃ codes' hp' hs' poss' sets', fX0_countPlans com cores (nI k) nb pop (g 206) (nI n) codes hp hs poss sets size = some (nI (lawR n k g).length, codes', hp', hs', poss', sets', nI (lawR n k g).length) ∧ CatR n k g hs' poss' hp' codes' (nI (lawR n k g).length) ∧ ListR n k g codes' (nI (lawR n k g).length) := by
  rw [fX0_countPlans]
  by_cases e : hp = 0
  · obtain ⟨hs', poss', e1, e2, e3⟩ := pX0_sets (poss := poss) (hs := hs) h hn (fun q => (hc.1 q).2)
    have hS : ∀ d, d < 4 → (fun j => if j < 4 then (0 : Int32) else sets j) d = 0 := fun d hd => if_pos hd
    have hl := pX0_listFrom (poss := poss') hn hk0 hk n 20 0 0 codes (fun j => if j < 4 then (0 : Int32) else sets j) 0 0 (by omega) (by omega) (by omega) (fun d v hd hv => by rw [hS d hd, pbit_0] at hv; cases hv) (by rw [Nat.zero_add]; exact cK_le ⟨n, by omega⟩ ⟨k, by omega⟩)
    rw [kM_law hS e3 hn hk0 hk, Nat.zero_add, List.length_map] at hl
    have hL : ListR n k g (app codes 0 ((lawR n k g).map (codeL 0 0))) (nI (lawR n k g).length) := by
      refine ⟨rfl, fun i hi => ?_⟩
      unfold app
      rw [if_pos ⟨Nat.zero_le i, by rw [List.length_map]; omega⟩, Nat.sub_zero, List.getD_eq_getElem?_getD, List.getElem?_map, List.getElem?_eq_getElem hi, List.getD_eq_getElem?_getD, List.getElem?_eq_getElem hi]; rfl
    rw [if_pos e, if_neg (show ¬ (9 : Int32) < nI n from nI_nlt hn (by decide)), e1, bind_s, pJ7_fill (by decide), bind_s]
    rw [show fX0_listFrom 20 codes poss' (fun j => if j < 4 then (0 : Int32) else sets j) 0 (nI k) (nI n) 0 0 0 = _ from hl, bind_s]
    exact ⟨_, _, _, _, _, rfl, ⟨fun _ => ⟨hn, e3⟩, fun _ => ⟨hn, hL⟩⟩, hL⟩
  · obtain ⟨-, hL⟩ := hc.2 e
    rw [if_neg e, hL.1]
    exact ⟨_, _, _, _, _, rfl, ⟨hc.1, fun _ => ⟨hn, rfl, hL.2⟩⟩, rfl, hL.2⟩
