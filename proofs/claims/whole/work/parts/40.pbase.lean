/-! PURE PART: the decompiled functions alone, no machine. Numbers, bits, sums, loops. -/
theorem ff : ¬ (false = true) := by decide
theorem n10 : ¬ (1 : Int32) = 0 := by decide
theorem ge4 {i : Nat} (h : i < 4) : ¬ (4 : Int32) ≤ nI i := nI_ge h (by decide)
theorem ge12 {i : Nat} (h : i < 12) : ¬ (12 : Int32) ≤ nI i := nI_ge h (by decide)
theorem ge80 {i : Nat} (h : i < 80) : ¬ (80 : Int32) ≤ nI i := nI_ge h (by decide)
theorem ge221 {i : Nat} (h : i < 221) : ¬ (221 : Int32) ≤ nI i := nI_ge h (by decide)
theorem il (n : Nat) : (OfNat.ofNat n : Int32) = nI n := rfl
theorem inR_nI {i N : Nat} (hi : i < 2 ^ 31) : inR (nI i) N ↔ i < N := by
  show (0 ≤ (nI i).toInt ∧ (nI i).toInt < (N : Int)) ↔ _
  rw [nI_toInt hi]; omega
theorem inR_of {x : Int32} {N : Nat} (h : inR x N) (hN : N < 2 ^ 31) : ∃ j, j < N ∧ x = nI j := by
  obtain ⟨j, h1, h2⟩ := vp_in_of (vp_in_iff.mpr h) hN
  exact ⟨j, h1, h2⟩
/-- a loop that counts up: its states one after another -/
theorem upS {R α : Type} (F : Nat → Nat → α → Option R) (S : Nat → α) (e : Nat) (r : Option R) (hx : ∀ n, F (n + 1) e (S e) = r) (hs : ∀ n i, i < e → F (n + 1) i (S i) = F n (i + 1) (S (i + 1))) : ∀ n, e < n → F n 0 (S 0) = r := by
  have key : ∀ k i n, i + k = e → k < n → F n i (S i) = r := by
    intro k
    induction k with
    | zero =>
      intro i n h1 h2
      obtain ⟨n, rfl⟩ : ∃ m, n = m + 1 := ⟨n - 1, by omega⟩
      have : i = e := by omega
      subst this
      exact hx n
    | succ k ih =>
      intro i n h1 h2
      obtain ⟨n, rfl⟩ : ∃ m, n = m + 1 := ⟨n - 1, by omega⟩
      rw [hs n i (by omega)]
      exact ih (i + 1) n (by omega) (by omega)
  intro n hn
  exact key e 0 n (by omega) hn
/-- .. from a place on -/
theorem upSF {R α : Type} (F : Nat → Nat → α → Option R) (S : Nat → α) (b e : Nat) (hb : b ≤ e) (r : Option R) (hx : ∀ n, F (n + 1) e (S e) = r) (hs : ∀ n i, b ≤ i → i < e → F (n + 1) i (S i) = F n (i + 1) (S (i + 1))) : ∀ n, e < n → F n b (S b) = r := by
  have key : ∀ k i n, b ≤ i → i + k = e → k < n → F n i (S i) = r := by
    intro k
    induction k with
    | zero =>
      intro i n h0 h1 h2
      obtain ⟨n, rfl⟩ : ∃ m, n = m + 1 := ⟨n - 1, by omega⟩
      have : i = e := by omega
      subst this
      exact hx n
    | succ k ih =>
      intro i n h0 h1 h2
      obtain ⟨n, rfl⟩ : ∃ m, n = m + 1 := ⟨n - 1, by omega⟩
      rw [hs n i h0 (by omega)]
      exact ih (i + 1) n (by omega) (by omega) (by omega)
  intro n hn
  exact key (e - b) b n (Nat.le_refl b) (by omega) (by omega)
/-- a loop that counts up and may end early -/
theorem upX {R : Type} (F : Nat → Nat → Option R) (e : Nat) (G : Nat → Option R) (p : Nat → Bool) (r : Option R) (hx : ∀ n, F (n + 1) e = r) (hs : ∀ n i, i < e → p i = false → F (n + 1) i = F n (i + 1)) (hq : ∀ n i, i < e → p i = true → F (n + 1) i = G i) : ∀ k i n, i + k = e → k < n → F n i = (match (List.range' i k).find? p with | some j => G j | none => r) := by
  intro k
  induction k with
  | zero =>
    intro i n h1 h2
    obtain ⟨n, rfl⟩ : ∃ m, n = m + 1 := ⟨n - 1, by omega⟩
    have : i = e := by omega
    subst this
    exact hx n
  | succ k ih =>
    intro i n h1 h2
    obtain ⟨n, rfl⟩ : ∃ m, n = m + 1 := ⟨n - 1, by omega⟩
    rw [List.range'_succ, List.find?_cons]
    cases hp : p i with
    | true => exact hq n i (by omega) hp
    | false =>
      rw [hs n i (by omega) hp]
      exact ih (i + 1) n (by omega) (by omega)
/-! bits -/
def pbit (s : Int32) (u : Nat) : Bool := s.toBitVec.getLsbD u
theorem pbit_ext {s t : Int32} (h : ∀ u, u < 32 → pbit s u = pbit t u) : s = t := Int32.toBitVec_inj.1 (BitVec.eq_of_getLsbD_eq fun i hi => h i hi)
theorem pbit_and (s t : Int32) (u : Nat) : pbit (s &&& t) u = (pbit s u && pbit t u) := by
  show (s.toBitVec &&& t.toBitVec).getLsbD u = _
  rw [BitVec.getLsbD_and]; rfl
theorem pbit_or (s t : Int32) (u : Nat) : pbit (s ||| t) u = (pbit s u || pbit t u) := by
  show (s.toBitVec ||| t.toBitVec).getLsbD u = _
  rw [BitVec.getLsbD_or]; rfl
theorem pbit_0 (u : Nat) : pbit 0 u = false := by
  show (0 : BitVec 32).getLsbD u = false
  exact BitVec.getLsbD_zero
theorem pbit_ge {s : Int32} {u : Nat} (h : 32 ≤ u) : pbit s u = false := BitVec.getLsbD_of_ge _ _ h
theorem pbit_lt {s : Int32} {u : Nat} (h : pbit s u = true) : u < 32 := by
  rcases Nat.lt_or_ge u 32 with q | q
  · exact q
  · rw [pbit_ge q] at h; cases h
theorem pbit_not (s : Int32) {u : Nat} (h : u < 32) : pbit (s ^^^ (-1)) u = !pbit s u := by
  show (s.toBitVec ^^^ (-1 : Int32).toBitVec).getLsbD u = _
  rw [BitVec.getLsbD_xor]
  have : ∀ u : Fin 32, ((-1 : Int32).toBitVec).getLsbD u.val = true := by decide +kernel
  rw [this ⟨u, h⟩]
  show ((s.toBitVec.getLsbD u) ^^ true) = !(s.toBitVec.getLsbD u)
  cases s.toBitVec.getLsbD u <;> rfl
theorem pbit_shl {u v : Nat} (hu : u < 32) : pbit ((1 : Int32) <<< (nI u &&& 31)) v = decide (u = v) := by
  rcases Nat.lt_or_ge v 32 with hv | hv
  · have : ∀ u v : Fin 32, pbit ((1 : Int32) <<< (nI u.val &&& 31)) v.val = decide (u.val = v.val) := by decide +kernel
    exact this ⟨u, hu⟩ ⟨v, hv⟩
  · rw [pbit_ge hv]
    exact (decide_eq_false (by omega)).symm
theorem pbit_1 {v : Nat} : pbit 1 v = decide (0 = v) := by
  rcases Nat.lt_or_ge v 32 with hv | hv
  · have : ∀ v : Fin 32, pbit 1 v.val = decide (0 = v.val) := by decide +kernel
    exact this ⟨v, hv⟩
  · rw [pbit_ge hv]
    exact (decide_eq_false (by omega)).symm
theorem pbit_shr (s : Int32) {u : Nat} (hu : u < 32) : ((s >>> (nI u &&& 31)) &&& (1 : Int32)) = if pbit s u then 1 else 0 := by
  have hk : ∀ u : Fin 32, (((nI u.val &&& 31) : Int32).toBitVec.smod 32).toNat = u.val := by decide +kernel
  have h0 : pbit (s >>> (nI u &&& 31)) 0 = pbit s u := by
    show (s.toBitVec.sshiftRight (((nI u &&& 31) : Int32).toBitVec.smod 32).toNat).getLsbD 0 = s.toBitVec.getLsbD u
    rw [hk ⟨u, hu⟩, BitVec.getLsbD_sshiftRight]
    simp [hu]
  apply pbit_ext
  intro v hv
  rw [pbit_and, pbit_1]
  by_cases h : 0 = v
  · subst h
    rw [h0]
    cases hp : pbit s u
    · simp [pbit_0]
    · simp [pbit_1]
  · rw [decide_eq_false h, Bool.and_false]
    cases pbit s u
    · simp [pbit_0]
    · simp [pbit_1, h]
theorem shr_eq0 (s : Int32) {u : Nat} (hu : u < 32) : ((s >>> (nI u &&& 31)) &&& (1 : Int32)) = 0 ↔ pbit s u = false := by
  rw [pbit_shr s hu]
  cases pbit s u <;> decide
theorem shr_eq1 (s : Int32) {u : Nat} (hu : u < 32) : ((s >>> (nI u &&& 31)) &&& (1 : Int32)) = 1 ↔ pbit s u = true := by
  rw [pbit_shr s hu]
  cases pbit s u <;> decide
/-! sums, unions -/
def sumI : Nat → (Nat → Int32) → Int32
  | 0, _ => 0
  | n + 1, f => sumI n f + f n
theorem sumI_congr {f g : Nat → Int32} : ∀ {n : Nat}, (∀ u, u < n → f u = g u) → sumI n f = sumI n g
  | 0, _ => rfl
  | n + 1, h => by rw [sumI, sumI, sumI_congr (fun u hu => h u (by omega)), h n (by omega)]
def orI : Nat → (Nat → Int32) → Int32
  | 0, _ => 0
  | n + 1, f => orI n f ||| f n
theorem orI_congr {f g : Nat → Int32} : ∀ {n : Nat}, (∀ u, u < n → f u = g u) → orI n f = orI n g
  | 0, _ => rfl
  | n + 1, h => by rw [orI, orI, orI_congr (fun u hu => h u (by omega)), h n (by omega)]
theorem pbit_orI {f : Nat → Int32} {v : Nat} : ∀ {n : Nat}, pbit (orI n f) v = true ↔ ∃ u, u < n ∧ pbit (f u) v = true
  | 0 => by
    rw [orI, pbit_0]
    exact ⟨fun h => absurd h (by decide), fun ⟨u, h, _⟩ => absurd h (Nat.not_lt_zero u)⟩
  | n + 1 => by
    rw [orI, pbit_or, Bool.or_eq_true, pbit_orI]
    constructor
    · rintro (⟨u, h1, h2⟩ | h)
      · exact ⟨u, by omega, h2⟩
      · exact ⟨n, by omega, h⟩
    · rintro ⟨u, h1, h2⟩
      by_cases e : u = n
      · subst e; exact Or.inr h2
      · exact Or.inl ⟨u, by omega, h2⟩
/-- the set of the u < n with p u -/
def mkS (n : Nat) (p : Nat → Bool) : Int32 := orI n (fun u => if p u then (1 : Int32) <<< (nI u &&& 31) else 0)
theorem pbit_mkS {n : Nat} {p : Nat → Bool} (hn : n ≤ 32) {v : Nat} : pbit (mkS n p) v = true ↔ v < n ∧ p v = true := by
  unfold mkS
  rw [pbit_orI]
  constructor
  · rintro ⟨u, h1, h2⟩
    cases hp : p u
    · simp [hp, pbit_0] at h2
    · rw [hp, if_pos rfl, pbit_shl (by omega)] at h2
      have := of_decide_eq_true h2
      subst this
      exact ⟨h1, hp⟩
  · rintro ⟨h1, h2⟩
    refine ⟨v, h1, ?_⟩
    rw [h2, if_pos rfl, pbit_shl (by omega)]
    exact decide_eq_true rfl
theorem pbit_mkS' {n : Nat} {p : Nat → Bool} (hn : n ≤ 32) (v : Nat) : pbit (mkS n p) v = (decide (v < n) && p v) := by
  rw [Bool.eq_iff_iff, pbit_mkS hn, Bool.and_eq_true, decide_eq_true_eq]
theorem mkS_congr {n : Nat} {p q : Nat → Bool} (h : ∀ u, u < n → p u = q u) : mkS n p = mkS n q := by
  unfold mkS
  exact orI_congr fun u hu => by rw [h u hu]
theorem mkS_succ (n : Nat) (p : Nat → Bool) : mkS (n + 1) p = mkS n p ||| (if p n then (1 : Int32) <<< (nI n &&& 31) else 0) := rfl
theorem or_0 (x : Int32) : x ||| 0 = x := by
  apply pbit_ext; intro u _; rw [pbit_or, pbit_0, Bool.or_false]
theorem add_0 (x : Int32) : x + 0 = x := by simp
theorem bind_s {α β : Type _} (a : α) (f : α → Option β) : (some a).bind f = f a := rfl
