/-! counting by sets: how many ways there are -/
abbrev bitI (u : Nat) : Int32 := (1 : Int32) <<< (nI u &&& 31)
/-- over all choices from a list: what is chosen, what is left -/
def subS : List Nat → (Int32 → List Nat → Nat) → Nat
  | [], F => F 0 []
  | u :: us, F => subS us (fun t r => F (bitI u ||| t) r) + subS us (fun t r => F t (u :: r))
def ups (x : Int32) : List Int32 → List (List Int32)
  | [] => []
  | b :: bs => ((b ||| x) :: bs) :: (ups x bs).map (fun t => b :: t)
/-- ways to put the units into the blocks and m new ones -/
def waysC (P : Int32 → Bool) : List Nat → List Int32 → Nat → Nat
  | [], bs, m => if m = 0 ∧ bs.all P = true then 1 else 0
  | u :: us, bs, 0 => ((ups (bitI u) bs).map (fun t => waysC P us t 0)).sum
  | u :: us, bs, m + 1 => ((ups (bitI u) bs).map (fun t => waysC P us t (m + 1))).sum + waysC P us (bs ++ [bitI u]) m
theorem subS_add : ∀ {us : List Nat} {F G : Int32 → List Nat → Nat}, subS us (fun t r => F t r + G t r) = subS us F + subS us G
  | [], _, _ => rfl
  | u :: us, F, G => by
    have e1 := subS_add (us := us) (F := fun t r => F (bitI u ||| t) r) (G := fun t r => G (bitI u ||| t) r)
    have e2 := subS_add (us := us) (F := fun t r => F t (u :: r)) (G := fun t r => G t (u :: r))
    show subS us (fun t r => F (bitI u ||| t) r + G (bitI u ||| t) r) + subS us (fun t r => F t (u :: r) + G t (u :: r)) = (subS us (fun t r => F (bitI u ||| t) r) + subS us (fun t r => F t (u :: r))) + (subS us (fun t r => G (bitI u ||| t) r) + subS us (fun t r => G t (u :: r)))
    rw [e1, e2]
    omega
theorem subS_zero : ∀ {us : List Nat}, subS us (fun _ _ => 0) = 0
  | [] => rfl
  | u :: us => by rw [subS, subS_zero]
theorem subS_sum {α : Type} {us : List Nat} {F : α → Int32 → List Nat → Nat} : ∀ {l : List α}, subS us (fun t r => (l.map (fun a => F a t r)).sum) = (l.map (fun a => subS us (F a))).sum
  | [] => subS_zero
  | a :: l => by
    simp only [List.map_cons, List.sum_cons]
    rw [subS_add, subS_sum]
theorem or_as (a b c : Int32) : (a ||| b) ||| c = a ||| (b ||| c) := by
  apply pbit_ext; intro u _; simp only [pbit_or, Bool.or_assoc]
theorem or_cm (a b : Int32) : a ||| b = b ||| a := by
  apply pbit_ext; intro u _; rw [pbit_or, pbit_or, Bool.or_comm]
theorem subS_congr : ∀ {us : List Nat} {F G : Int32 → List Nat → Nat}, (∀ t r, F t r = G t r) → subS us F = subS us G
  | us, F, G, h => by rw [show F = G from funext fun t => funext fun r => h t r]
theorem if_sum {α : Type} {c : Bool} {f : α → Nat} : ∀ {l : List α}, (if c then (l.map f).sum else 0) = (l.map (fun a => if c then f a else 0)).sum
  | [] => by cases c <;> rfl
  | a :: l => by
    have := if_sum (c := c) (f := f) (l := l)
    cases c
    · simp only [List.map_cons, List.sum_cons] at this ⊢
      rw [← this]; rfl
    · rfl
/-- the first block taken out -/
theorem waysC_peel {P : Int32 → Bool} : ∀ (us : List Nat) (b : Int32) (bs : List Int32) (m : Nat), waysC P us (b :: bs) m = subS us (fun t r => if P (b ||| t) then waysC P r bs m else 0)
  | [], b, bs, m => by
    rw [waysC, subS, waysC, or_0, List.all_cons]
    cases P b with
    | true => rw [Bool.true_and, if_pos rfl]
    | false => rw [Bool.false_and, if_neg (fun q => ff q.2), if_neg ff]
  | u :: us, b, bs, 0 => by
    rw [waysC, subS, ups, List.map_cons, List.sum_cons, waysC_peel us]
    congr 1
    · exact subS_congr fun t r => by rw [or_as]
    · rw [List.map_map]
      have e : (fun t => waysC P us t 0) ∘ (fun t => b :: t) = fun bs' => subS us (fun t r => if P (b ||| t) then waysC P r bs' 0 else 0) := funext fun bs' => waysC_peel us b bs' 0
      rw [e, ← subS_sum]
      exact subS_congr fun t r => by rw [waysC, if_sum]
  | u :: us, b, bs, m + 1 => by
    rw [waysC, subS, ups, List.map_cons, List.sum_cons, waysC_peel us, List.cons_append, waysC_peel us, Nat.add_assoc]
    congr 1
    · exact subS_congr fun t r => by rw [or_as]
    · rw [List.map_map]
      have e : (fun t => waysC P us t (m + 1)) ∘ (fun t => b :: t) = fun bs' => subS us (fun t r => if P (b ||| t) then waysC P r bs' (m + 1) else 0) := funext fun bs' => waysC_peel us b bs' (m + 1)
      rw [e, ← subS_sum, ← subS_add]
      refine subS_congr fun t r => ?_
      rw [waysC, ← if_sum]
      cases P (b ||| t) <;> rfl
/-! .. and the kept rows -/
theorem ups_range {x : Int32} {S : Nat → Int32} : ∀ {l : List Nat}, l.Nodup → ups x (l.map S) = l.map (fun d => l.map (upd S d (S d ||| x)))
  | [], _ => rfl
  | a :: l, h => by
    obtain ⟨h1, h2⟩ := List.nodup_cons.mp h
    rw [List.map_cons, ups, ups_range h2, List.map_cons, List.map_map]
    congr 1
    · rw [List.map_cons, pk_us]
      congr 1
      exact List.map_congr_left fun e he => (pk_un (fun q => h1 (by rw [← q]; exact he))).symm
    · refine List.map_congr_left fun d hd => ?_
      show S a :: l.map _ = (a :: l).map _
      rw [List.map_cons, pk_un (fun q => h1 (by rw [q]; exact hd))]
theorem catF_lenS {α : Type} {f : Nat → List α} : ∀ {c d : Nat}, (catF f d c).length = sumF (fun e => (f e).length) d c
  | 0, _ => rfl
  | c + 1, d => by rw [catF, sumF, List.length_append, catF_lenS]
theorem sumF_range {f : Nat → Nat} : ∀ {c : Nat}, sumF f 0 c = ((List.range c).map f).sum
  | 0 => rfl
  | c + 1 => by
    rw [sumF_snoc, sumF_range, List.range_succ, List.map_append, List.sum_append, List.map_singleton, List.sum_singleton, Nat.zero_add]
theorem kM_ways {k : Nat} {poss : Nat → Int32} {P : Int32 → Bool} (hk0 : 1 ≤ k) (hP : ∀ s, P s = decide (¬ poss s.toNatClampNeg = 0)) : ∀ (r u used : Nat) (S : Nat → Int32) (c : Int32), used ≤ k → (∀ d, used ≤ d → d < k → S d = 0) → (kM k poss r u S used c).length = waysC P (List.range' u r) ((List.range used).map S) (k - used)
  | 0, u, used, S, c, hu, hS => by
    rw [kM, List.range'_zero, waysC]
    by_cases h : used = k
    · subst h
      rw [Nat.sub_self]
      have e : posB poss S used = ((List.range used).map S).all P := by
        rw [Bool.eq_iff_iff, List.all_eq_true]
        unfold posB
        rw [decide_eq_true_eq]
        constructor
        · intro q x hx
          obtain ⟨d, hd, rfl⟩ := List.mem_map.mp hx
          rw [hP]
          exact decide_eq_true (q d (List.mem_range.mp hd))
        · intro q d hd
          have := q (S d) (List.mem_map.mpr ⟨d, List.mem_range.mpr hd, rfl⟩)
          rw [hP] at this
          exact of_decide_eq_true this
      rw [← e]
      by_cases q : posB poss S used = true
      · rw [if_pos ⟨rfl, q⟩, if_pos ⟨rfl, q⟩]; rfl
      · rw [if_neg (fun t => q t.2), if_neg (fun t => q t.2)]; rfl
    · rw [if_neg (fun q => h q.1), if_neg (fun q => by omega)]; rfl
  | r + 1, u, used, S, c, hu, hS => by
    have hold : ∀ d, d < used → (kM k poss r (u + 1) (addd S u d) (max used (d + 1)) (codeI c u d)).length = waysC P (List.range' (u + 1) r) ((List.range used).map (upd S d (S d ||| bitI u))) (k - used) := by
      intro d hd
      rw [Nat.max_eq_left (by omega), kM_ways hk0 hP r (u + 1) used _ _ hu (fun e h1 h2 => by unfold addd; rw [pk_un (by omega)]; exact hS e h1 h2)]; rfl
    rw [kM, catF_lenS, List.range'_succ]
    by_cases h : used = k
    · subst h
      rw [Nat.sub_self, waysC, ups_range List.nodup_range, List.map_map]
      rw [Nat.min_eq_right (by omega), show used - 1 + 1 = used by omega, sumF_range]
      congr 1
      refine List.map_congr_left fun d hd => ?_
      rw [hold d (List.mem_range.mp hd), Nat.sub_self]; rfl
    · obtain ⟨m, hm⟩ : ∃ m, k - used = m + 1 := ⟨k - used - 1, by omega⟩
      rw [Nat.min_eq_left (by omega), sumF_snoc, Nat.zero_add, sumF_range, hm, waysC, ups_range List.nodup_range, List.map_map]
      congr 1
      · congr 1
        refine List.map_congr_left fun d hd => ?_
        rw [hold d (List.mem_range.mp hd), hm]; rfl
      · rw [Nat.max_eq_right (by omega), kM_ways hk0 hP r (u + 1) (used + 1) _ _ (by omega) (fun e h1 h2 => by unfold addd; rw [pk_un (by omega)]; exact hS e (by omega) h2), show k - (used + 1) = m by omega, List.range_succ, List.map_append, List.map_singleton]
        congr 2
        · exact List.map_congr_left fun e he => by unfold addd; rw [pk_un (by have := List.mem_range.mp he; omega)]
        · unfold addd
          rw [pk_us, hS used (Nat.le_refl _) (by omega), or_cm, or_0]
