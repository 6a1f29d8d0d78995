/-! ranges; greatest common divisors; measures in lowest terms; which is better -/
/-- what a map's numbers are -/
def MapW (g : Nat → Int32) (n : Nat) : Prop :=
  (∀ u, u < n → (∃ p, 1 ≤ p ∧ p ≤ 99 ∧ g (5 * u) = nI p) ∧ (∃ a, 1 ≤ a ∧ a ≤ 99 ∧ g (5 * u + 1) = nI a) ∧ (g (5 * u + 2) = -1 ∨ ∃ c, c < 4 ∧ g (5 * u + 2) = nI c) ∧ (g (5 * u + 3) = 0 ∨ g (5 * u + 3) = 1) ∧ ∃ o, o ≤ 9 ∧ g (5 * u + 4) = nI o) ∧
  (∀ u v, u < n → v < n → ∃ b, b ≤ 9 ∧ gB g u v = nI b ∧ gB g v u = nI b ∧ (u = v → b = 0))
theorem MapW.sym {g : Nat → Int32} {n : Nat} (h : MapW g n) : SymB g n := fun u v hu hv => by
  obtain ⟨b, _, h1, h2, _⟩ := h.2 u v hu hv
  rw [h1, h2]
theorem sumI_ex {f : Nat → Int32} {A B : Nat} : ∀ {n : Nat}, (∀ u, u < n → ∃ x, A ≤ x ∧ x ≤ B ∧ f u = nI x) → ∃ s, n * A ≤ s ∧ s ≤ n * B ∧ sumI n f = nI s
  | 0, _ => ⟨0, by omega, by omega, rfl⟩
  | n + 1, h => by
    obtain ⟨s, h1, h2, h3⟩ := sumI_ex (n := n) (fun u hu => h u (by omega))
    obtain ⟨x, h4, h5, h6⟩ := h n (by omega)
    refine ⟨s + x, ?_, ?_, by rw [sumI, h3, h6, nI_add]⟩
    · rw [Nat.add_mul]; omega
    · rw [Nat.add_mul]; omega
theorem popS_ex {g : Nat → Int32} {n : Nat} (h : MapW g n) (hn : n ≤ 12) : ∃ s, n ≤ s ∧ s ≤ 1188 ∧ sumI n (fun u => g (5 * u)) = nI s := by
  obtain ⟨s, h1, h2, h3⟩ := sumI_ex (f := fun u => g (5 * u)) (A := 1) (B := 99) (n := n) (fun u hu => (h.1 u hu).1)
  exact ⟨s, by omega, by omega, h3⟩
theorem ssum_ex {f : Nat → Int32} {n B : Nat} {set : Int32} (h : ∀ u, u < n → ∃ x, x ≤ B ∧ f u = nI x) : ∃ s, s ≤ n * B ∧ ssum n set f = nI s := by
  obtain ⟨s, -, h2, h3⟩ := sumI_ex (f := fun u => if pbit set u then f u else 0) (A := 0) (B := B) (n := n) (fun u hu => by
    obtain ⟨x, h1, h2⟩ := h u hu
    cases pbit set u with
    | true => exact ⟨x, by omega, h1, by rw [if_pos rfl, h2]⟩
    | false => exact ⟨0, by omega, by omega, by rw [if_neg ff]; rfl⟩)
  exact ⟨s, h2, h3⟩
theorem popT_ex {g : Nat → Int32} {n : Nat} (h : MapW g n) (hn : n ≤ 12) (set : Int32) : ∃ s, s ≤ 1188 ∧ ssum n set (fun u => g (5 * u)) = nI s := by
  obtain ⟨s, h1, h2⟩ := ssum_ex (f := fun u => g (5 * u)) (n := n) (B := 99) (set := set) (fun u hu => by obtain ⟨x, _, h2, h3⟩ := (h.1 u hu).1; exact ⟨x, h2, h3⟩)
  exact ⟨s, by omega, h2⟩
theorem areaT_ex {g : Nat → Int32} {n : Nat} (h : MapW g n) (hn : n ≤ 12) (set : Int32) : ∃ s, s ≤ 1188 ∧ ssum n set (fun u => g (5 * u + 1)) = nI s := by
  obtain ⟨s, h1, h2⟩ := ssum_ex (f := fun u => g (5 * u + 1)) (n := n) (B := 99) (set := set) (fun u hu => by obtain ⟨x, _, h2, h3⟩ := (h.1 u hu).2.1; exact ⟨x, h2, h3⟩)
  exact ⟨s, by omega, h2⟩
theorem perS_ex {g : Nat → Int32} {n : Nat} (h : MapW g n) (hn : n ≤ 12) (set : Int32) : ∃ s, s ≤ 1404 ∧ perS n (fun u => g (5 * u + 4)) (gB g) set = nI s := by
  obtain ⟨s, -, h2, h3⟩ := sumI_ex (f := fun u => if pbit set u then g (5 * u + 4) + sumI n (fun v => if pbit set v then 0 else gB g u v) else 0) (A := 0) (B := 117) (n := n) (fun u hu => by
    cases pbit set u with
    | false => exact ⟨0, by omega, by omega, by rw [if_neg ff]; rfl⟩
    | true =>
      obtain ⟨o, o1, o2⟩ := (h.1 u hu).2.2.2.2
      obtain ⟨t, -, t2, t3⟩ := sumI_ex (f := fun v => if pbit set v then 0 else gB g u v) (A := 0) (B := 9) (n := n) (fun v hv => by
        cases pbit set v with
        | true => exact ⟨0, by omega, by omega, by rw [if_pos rfl]; rfl⟩
        | false =>
          obtain ⟨b, b1, b2, -⟩ := h.2 u v hu hv
          exact ⟨b, by omega, b1, by rw [if_neg ff, b2]⟩)
      exact ⟨o + t, by omega, by omega, by rw [if_pos rfl, o2, t3, nI_add]⟩)
  exact ⟨s, by omega, h3⟩
theorem cutS_ex {g plan : Nat → Int32} {n : Nat} (h : MapW g n) (hn : n ≤ 12) : ∃ s, s ≤ 1296 ∧ cutS n g plan = nI s := by
  obtain ⟨s, -, h2, h3⟩ := sumI_ex (f := fun u => sumI n (fun v => if v < u then (if plan u = plan v then 0 else gB g u v) else 0)) (A := 0) (B := 108) (n := n) (fun u hu => by
    obtain ⟨t, -, t2, t3⟩ := sumI_ex (f := fun v => if v < u then (if plan u = plan v then 0 else gB g u v) else 0) (A := 0) (B := 9) (n := n) (fun v hv => by
      by_cases e : v < u
      · by_cases e2 : plan u = plan v
        · exact ⟨0, by omega, by omega, by rw [if_pos e, if_pos e2]; rfl⟩
        · obtain ⟨b, b1, b2, -⟩ := h.2 u v hu hv
          exact ⟨b, by omega, b1, by rw [if_pos e, if_neg e2, b2]⟩
      · exact ⟨0, by omega, by omega, by rw [if_neg e]; rfl⟩)
    exact ⟨t, by omega, by omega, t3⟩)
  exact ⟨s, by omega, h3⟩
theorem tornS_ex {g plan : Nat → Int32} {n : Nat} : ∃ s, s ≤ 4 ∧ tornS n g plan = nI s := by
  obtain ⟨s, -, h2, h3⟩ := sumI_ex (f := fun c => if twoB n plan (fun u => decide (g (5 * u + 2) = nI c)) then 1 else 0) (A := 0) (B := 1) (n := 4) (fun c _ => by
    cases twoB n plan (fun u => decide (g (5 * u + 2) = nI c)) with
    | true => exact ⟨1, by omega, by omega, by rw [if_pos rfl]; rfl⟩
    | false => exact ⟨0, by omega, by omega, by rw [if_neg ff]; rfl⟩)
  exact ⟨s, by omega, h3⟩
theorem offS_ex {g : Nat → Int32} {n k : Nat} (h : MapW g n) (hn : n ≤ 12) (hk : k ≤ 4) (set : Int32) : ∃ s, s ≤ 4752 ∧ offS n (nI k) (fun u => g (5 * u)) set = nI s := by
  obtain ⟨s, s1, s2⟩ := popT_ex h hn set
  obtain ⟨t, -, t1, t2⟩ := popS_ex h hn
  unfold offS
  rw [s2, t2, pk_mul]
  have hsk : s * k ≤ 1188 * 4 := Nat.mul_le_mul s1 hk
  by_cases e : t ≤ s * k
  · rw [pk_sub e, if_pos (nI_pos' (by omega))]
    exact ⟨s * k - t, by omega, rfl⟩
  · rw [if_neg (by rw [le_nlt]; exact fun q => q (pk_sneg (by omega) (by omega)))]
    refine ⟨t - s * k, by omega, ?_⟩
    rw [← pk_sub (by omega), zero_sub']
    exact Int32.neg_sub
theorem maxOff_ex {g plan : Nat → Int32} {n k : Nat} (h : MapW g n) (hn : n ≤ 12) (hk : k ≤ 4) : ∀ d, ∃ s, s ≤ 4752 ∧ maxOff n k g plan d = nI s
  | 0 => ⟨0, by omega, rfl⟩
  | d + 1 => by
    obtain ⟨s, s1, s2⟩ := maxOff_ex (plan := plan) h hn hk d
    obtain ⟨t, t1, t2⟩ := offS_ex h hn hk (setS n plan d)
    rw [maxOff]
    split
    · exact ⟨t, t1, t2⟩
    · exact ⟨s, s1, s2⟩
/-! greatest common divisors -/
theorem mod_half {b c k : Nat} (hb : b < 2 ^ (k + 1)) (hc : c < b) (h0 : 0 < c) : b % c < 2 ^ k := by
  have h1 := Nat.mod_lt b h0
  have h2 := Nat.div_add_mod b c
  have h3 : 1 ≤ b / c := Nat.div_pos (by omega) h0
  have h4 : c * 1 ≤ c * (b / c) := Nat.mul_le_mul_left c h3
  rw [Nat.pow_succ] at hb
  omega
theorem lc0 : lg_cmp (lN 0) 0 = 0 := by decide
theorem lN0 {a : Nat} (h : a < 2 ^ 63) : lN a = 0 ↔ a = 0 := by
  have := pk_lEQ (a := a) (b := 0) h (by omega)
  exact this
theorem pX11_divisor_L6 {kf : Int64 → Option Int64} : ∀ (k a b fuel : Nat), b < 2 ^ k → 2 * k + 1 < fuel → a < 2 ^ 63 → b < 2 ^ 63 → fX11_divisor_L6 fuel kf (lN a) (lN b) = kf (lN (Nat.gcd b a)) := by
  intro k
  induction k with
  | zero =>
    intro a b fuel hb hf ha hb'
    obtain ⟨m, rfl⟩ : ∃ m, fuel = m + 1 := ⟨fuel - 1, by omega⟩
    have : b = 0 := by omega
    subst this
    rw [fX11_divisor_L6, if_pos lc0, Nat.gcd_zero_left]
  | succ k ih =>
    intro a b fuel hb hf ha hb'
    obtain ⟨m, rfl⟩ : ∃ m, fuel = m + 2 := ⟨fuel - 2, by omega⟩
    rcases Nat.eq_zero_or_pos b with h0 | h0
    · subst h0
      rw [fX11_divisor_L6, if_pos lc0, Nat.gcd_zero_left]
    · have hb0 : ¬ lN b = 0 := fun q => by have := (lN0 hb').mp q; omega
      have hc := Nat.mod_lt a h0
      rw [fX11_divisor_L6, if_neg (fun q => hb0 ((lg_cmp_eq _ _).mp q)), if_neg hb0, pk_lRem ha h0 hb', Nat.gcd_rec]
      rcases Nat.eq_zero_or_pos (a % b) with h1 | h1
      · rw [h1, fX11_divisor_L6, if_pos lc0, Nat.gcd_zero_left]
      · have hc0 : ¬ lN (a % b) = 0 := fun q => by have := (lN0 (by omega)).mp q; omega
        rw [fX11_divisor_L6, if_neg (fun q => hc0 ((lg_cmp_eq _ _).mp q)), if_neg hc0, pk_lRem hb' h1 (by omega), Nat.gcd_rec]
        exact ih (a % b) (b % (a % b)) m (mod_half hb hc h1) (by omega) (by omega) (by have := Nat.mod_lt b h1; omega)
theorem pX11_divisor {a b : Nat} (ha : a < 2 ^ 31) (hb : b < 2 ^ 31) : fX11_divisor (lN a) (lN b) = some (lN (Nat.gcd b a)) := by
  rw [fX11_divisor]
  exact pX11_divisor_L6 31 a b 1000000 hb (by omega) (by omega) (by omega)
theorem pX1_commonDivisor_L9 {kf : Int64 → Option Int64} : ∀ (k a b fuel i : Nat), b < 2 ^ k → 2 * k + 1 < fuel → i + 2 * k < 100 → a < 2 ^ 63 → b < 2 ^ 63 → fX1_commonDivisor_L9 fuel kf (lN a) (lN b) (nI i) = kf (lN (Nat.gcd b a)) := by
  intro k
  induction k with
  | zero =>
    intro a b fuel i hb hf hi ha hb'
    obtain ⟨m, rfl⟩ : ∃ m, fuel = m + 1 := ⟨fuel - 1, by omega⟩
    have : b = 0 := by omega
    subst this
    rw [fX1_commonDivisor_L9, if_neg (show ¬ (100 : Int32) ≤ nI i from nI_ge (b := 100) (by omega) (by decide)), if_pos lc0, Nat.gcd_zero_left]
  | succ k ih =>
    intro a b fuel i hb hf hi ha hb'
    obtain ⟨m, rfl⟩ : ∃ m, fuel = m + 2 := ⟨fuel - 2, by omega⟩
    have hi1 : ¬ (100 : Int32) ≤ nI i := nI_ge (b := 100) (by omega) (by decide)
    have hi2 : ¬ (100 : Int32) ≤ nI (i + 1) := nI_ge (b := 100) (by omega) (by decide)
    rcases Nat.eq_zero_or_pos b with h0 | h0
    · subst h0
      rw [fX1_commonDivisor_L9, if_neg hi1, if_pos lc0, Nat.gcd_zero_left]
    · have hb0 : ¬ lN b = 0 := fun q => by have := (lN0 hb').mp q; omega
      have hc := Nat.mod_lt a h0
      rw [fX1_commonDivisor_L9, if_neg hi1, if_neg (fun q => hb0 ((lg_cmp_eq _ _).mp q)), if_neg hb0, pk_lRem ha h0 hb', Nat.gcd_rec, nI_1]
      rcases Nat.eq_zero_or_pos (a % b) with h1 | h1
      · rw [h1, fX1_commonDivisor_L9, if_neg hi2, if_pos lc0, Nat.gcd_zero_left]
      · have hc0 : ¬ lN (a % b) = 0 := fun q => by have := (lN0 (by omega)).mp q; omega
        rw [fX1_commonDivisor_L9, if_neg hi2, if_neg (fun q => hc0 ((lg_cmp_eq _ _).mp q)), if_neg hc0, pk_lRem hb' h1 (by omega), Nat.gcd_rec, nI_1]
        exact ih (a % b) (b % (a % b)) m (i + 2) (mod_half hb hc h1) (by omega) (by omega) (by omega) (by have := Nat.mod_lt b h1; omega)
theorem pX1_become {a b : Nat} (ha : a < 2 ^ 31) (hb : b < 2 ^ 31) (h0 : 0 < b) : fX1_become (lN a) (lN b) = some (lN (b / Nat.gcd b a), lN (a / Nat.gcd b a)) := by
  have hg : 0 < Nat.gcd b a := Nat.gcd_pos_of_pos_left a h0
  have hgl : Nat.gcd b a ≤ b := Nat.gcd_le_left a h0
  rw [fX1_become, fX1_commonDivisor]
  rw [show (0 : Int32) = nI 0 from rfl, pX1_commonDivisor_L9 31 a b 1000000 0 hb (by omega) (by omega) (by omega) (by omega), bind_s, show nI 0 = (0 : Int32) from rfl]
  by_cases h1 : a = 0
  · subst h1
    rw [if_pos lc0, Nat.gcd_zero_right, Nat.div_self h0, Nat.zero_div]; rfl
  · rw [if_neg (fun q => h1 ((lN0 (by omega)).mp ((lg_cmp_eq _ _).mp q))), if_neg (fun q => by have := (lN0 (by omega)).mp ((lg_cmp_eq _ _).mp q); omega), if_neg (fun q => by have := (lN0 (by omega)).mp ((lg_cmp_eq _ _).mp q); omega), if_neg (fun q => by have := (lN0 (by omega)).mp q; omega), if_neg (fun q => by have := (lN0 (by omega)).mp q; omega)]
    rw [pk_lDiv (by omega) hg (by omega), pk_lDiv (by omega) hg (by omega)]
/-! the least compactness -/
def cPer (n : Nat) (g plan : Nat → Int32) (d : Nat) : Int32 := perS n (fun u => g (5 * u + 4)) (gB g) (setS n plan d)
def cAr (n : Nat) (g plan : Nat → Int32) (d : Nat) : Int32 := ssum n (setS n plan d) (fun u => g (5 * u + 1))
def cT (n : Nat) (g plan : Nat → Int32) (d : Nat) : Int64 := if lg_cmp (Int32.toInt64 (cPer n g plan d)) 0 = 0 then 0 else 16 * Int32.toInt64 (cAr n g plan d)
def cB (n : Nat) (g plan : Nat → Int32) (d : Nat) : Int64 := if lg_cmp (Int32.toInt64 (cPer n g plan d)) 0 = 0 then 1 else Int32.toInt64 (cPer n g plan d) * Int32.toInt64 (cPer n g plan d)
def bestT (n : Nat) (g plan : Nat → Int32) : Nat → Int64 × Int64
  | 0 => (0, 1)
  | d + 1 => if d = 0 then (cT n g plan d, cB n g plan d) else if 0 ≤ lg_cmp (cT n g plan d * (bestT n g plan d).2) ((bestT n g plan d).1 * cB n g plan d) then bestT n g plan d else (cT n g plan d, cB n g plan d)
theorem cTB_ex {g plan : Nat → Int32} {n : Nat} (h : MapW g n) (hn : n ≤ 12) (d : Nat) : ∃ x y, cT n g plan d = lN x ∧ cB n g plan d = lN y ∧ x < 2 ^ 31 ∧ y < 2 ^ 31 ∧ 0 < y := by
  obtain ⟨p, p1, p2⟩ := perS_ex h hn (setS n plan d)
  obtain ⟨a, a1, a2⟩ := areaT_ex h hn (setS n plan d)
  unfold cT cB cPer cAr
  rw [p2, a2, nI_l (by omega), nI_l (by omega)]
  have hpp : p * p ≤ 1404 * 1404 := Nat.mul_le_mul p1 p1
  by_cases e : p = 0
  · subst e
    rw [if_pos lc0, if_pos lc0]
    exact ⟨0, 1, rfl, rfl, by omega, by omega, by omega⟩
  · rw [if_neg (fun q => e ((lN0 (by omega)).mp ((lg_cmp_eq _ _).mp q))), if_neg (fun q => e ((lN0 (by omega)).mp ((lg_cmp_eq _ _).mp q)))]
    refine ⟨16 * a, p * p, by rw [show (16 : Int64) = lN 16 from rfl, lN_mul], lN_mul p p, by omega, by omega, Nat.mul_pos (by omega) (by omega)⟩
theorem bestT_ex {g plan : Nat → Int32} {n : Nat} (h : MapW g n) (hn : n ≤ 12) : ∀ d, ∃ x y, (bestT n g plan d).1 = lN x ∧ (bestT n g plan d).2 = lN y ∧ x < 2 ^ 31 ∧ y < 2 ^ 31 ∧ 0 < y
  | 0 => ⟨0, 1, rfl, rfl, by omega, by omega, by omega⟩
  | d + 1 => by
    obtain ⟨x, y, e1, e2, e3, e4, e5⟩ := cTB_ex (plan := plan) h hn d
    rw [bestT]
    split
    · exact ⟨x, y, e1, e2, e3, e4, e5⟩
    · split
      · exact bestT_ex h hn d
      · exact ⟨x, y, e1, e2, e3, e4, e5⟩
/-- the parts of a measure, not yet in lowest terms -/
noncomputable def measN (n k : Nat) (g plan : Nat → Int32) (w : Int32) : Int64 × Int64 := if w = 0 then bestT n g plan k else if w = 1 then (Int32.toInt64 (cutS n g plan), 1) else if w = 2 then (Int32.toInt64 (tornS n g plan), 1) else (Int32.toInt64 (maxOff n k g plan k), Int32.toInt64 (sumI n (fun u => g (5 * u))))
theorem measN_ex {g plan : Nat → Int32} {n k : Nat} {w : Int32} (h : MapW g n) (hn : n ≤ 12) (h1 : 1 ≤ n) (hk : k ≤ 4) : ∃ x y, measN n k g plan w = (lN x, lN y) ∧ x < 2 ^ 31 ∧ y < 2 ^ 31 ∧ 0 < y := by
  unfold measN
  split
  · obtain ⟨x, y, e1, e2, e3, e4, e5⟩ := bestT_ex (plan := plan) h hn k
    exact ⟨x, y, Prod.ext e1 e2, e3, e4, e5⟩
  · split
    · obtain ⟨s, s1, s2⟩ := cutS_ex (plan := plan) h hn
      exact ⟨s, 1, by rw [s2, nI_l (by omega)]; rfl, by omega, by omega, by omega⟩
    · split
      · obtain ⟨s, s1, s2⟩ := tornS_ex (g := g) (plan := plan) (n := n)
        exact ⟨s, 1, by rw [s2, nI_l (by omega)]; rfl, by omega, by omega, by omega⟩
      · obtain ⟨s, s1, s2⟩ := maxOff_ex (plan := plan) h hn hk k
        obtain ⟨t, t0, t1, t2⟩ := popS_ex h hn
        exact ⟨s, t, by rw [s2, t2, nI_l (by omega), nI_l (by omega)], by omega, by omega, by omega⟩
/-- a measure in lowest terms: above, below -/
noncomputable def finM (n k : Nat) (g plan : Nat → Int32) (w : Int32) : Int64 × Int64 := (lN ((measN n k g plan w).1.toInt.toNat / Nat.gcd (measN n k g plan w).2.toInt.toNat (measN n k g plan w).1.toInt.toNat), lN ((measN n k g plan w).2.toInt.toNat / Nat.gcd (measN n k g plan w).2.toInt.toNat (measN n k g plan w).1.toInt.toNat))
theorem finM_eq {g plan : Nat → Int32} {n k : Nat} {w : Int32} {x y : Nat} (h : measN n k g plan w = (lN x, lN y)) (hx : x < 2 ^ 31) (hy : y < 2 ^ 31) : finM n k g plan w = (lN (x / Nat.gcd y x), lN (y / Nat.gcd y x)) := by
  unfold finM
  rw [h]
  show (lN ((lN x).toInt.toNat / Nat.gcd (lN y).toInt.toNat (lN x).toInt.toNat), lN ((lN y).toInt.toNat / Nat.gcd (lN y).toInt.toNat (lN x).toInt.toNat)) = _
  rw [lN_toInt hx, lN_toInt hy]; rfl
theorem become_fin {g plan : Nat → Int32} {n k : Nat} {w : Int32} (h : MapW g n) (hn : n ≤ 12) (h1 : 1 ≤ n) (hk : k ≤ 4) : fX1_become (measN n k g plan w).1 (measN n k g plan w).2 = some ((finM n k g plan w).2, (finM n k g plan w).1) := by
  obtain ⟨x, y, e, hx, hy, h0⟩ := measN_ex (plan := plan) (w := w) h hn h1 hk
  rw [finM_eq e hx hy, e]
  exact pX1_become hx hy h0
theorem divide_fin {g plan : Nat → Int32} {n k : Nat} {w : Int32} (h : MapW g n) (hn : n ≤ 12) (h1 : 1 ≤ n) (hk : k ≤ 4) : ((fX11_divisor (measN n k g plan w).1 (measN n k g plan w).2).bind (fun q => if q = 0 then none else if q = 0 then none else some ((measN n k g plan w).1 / q, (measN n k g plan w).2 / q))) = some (finM n k g plan w) := by
  obtain ⟨x, y, e, hx, hy, h0⟩ := measN_ex (plan := plan) (w := w) h hn h1 hk
  have hg : 0 < Nat.gcd y x := Nat.gcd_pos_of_pos_left x h0
  have hgl : Nat.gcd y x ≤ y := Nat.gcd_le_left x h0
  have hz : ¬ lN (Nat.gcd y x) = 0 := fun q => by have := (lN0 (by omega)).mp q; omega
  rw [finM_eq e hx hy, e, pX11_divisor hx hy, bind_s, if_neg hz, if_neg hz]
  show some (lN x / lN (Nat.gcd y x), lN y / lN (Nat.gcd y x)) = _
  rw [pk_lDiv (by omega) hg (by omega), pk_lDiv (by omega) hg (by omega)]
