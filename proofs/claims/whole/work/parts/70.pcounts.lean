/-! counts and districts -/
theorem bit_small {x : Int32} (h : ∀ v, pbit x v = true → v < 12) : ∃ j, j < 4096 ∧ x = nI j := by
  have e : x = x &&& 4095 := by
    apply pbit_ext
    intro v hv
    rw [pbit_and]
    have h5 : ∀ v : Fin 32, pbit 4095 v.val = decide (v.val < 12) := by decide +kernel
    rw [h5 ⟨v, hv⟩]
    cases hb : pbit x v with
    | false => rfl
    | true => rw [decide_eq_true (h v hb)]; rfl
  have hb : (x.toBitVec &&& 4095#32).toNat ≤ 4095 := by
    rw [BitVec.toNat_and]
    exact Nat.and_le_right
  refine ⟨(x.toBitVec &&& 4095#32).toNat, by omega, Eq.trans e ?_⟩
  apply Int32.toBitVec_inj.1
  apply BitVec.eq_of_toNat_eq
  show (x.toBitVec &&& 4095#32).toNat = (BitVec.ofNat 32 (x.toBitVec &&& 4095#32).toNat).toNat
  rw [BitVec.toNat_ofNat, Nat.mod_eq_of_lt (by omega)]
theorem bitc_all : ∀ a b : Fin 64, fJ6_bitCount_0f7a4 (nI (64 * a.val + b.val)) = some (nI (cntB (nI (64 * a.val + b.val)) 12)) := by decide +kernel
theorem low_all : ∀ a b : Fin 64, nI (64 * a.val + b.val) ≠ 0 → lowS (nI (64 * a.val + b.val)) ≠ 0 := by decide +kernel
theorem bitc {x : Int32} (h : ∀ v, pbit x v = true → v < 12) : fJ6_bitCount_0f7a4 x = some (nI (cntB x 12)) := by
  obtain ⟨j, hj, rfl⟩ := bit_small h
  have := bitc_all ⟨j / 64, by omega⟩ ⟨j % 64, by omega⟩
  rw [show 64 * (j / 64) + j % 64 = j by omega] at this
  exact this
theorem low_ne {x : Int32} (h : ∀ v, pbit x v = true → v < 12) (h0 : x ≠ 0) : ∃ v, pbit (lowS x) v = true := by
  obtain ⟨j, hj, rfl⟩ := bit_small h
  have := low_all ⟨j / 64, by omega⟩ ⟨j % 64, by omega⟩
  rw [show 64 * (j / 64) + j % 64 = j by omega] at this
  exact ne0_bit (this h0)
def sumN : Nat → (Nat → Nat) → Nat
  | 0, _ => 0
  | n + 1, f => sumN n f + f n
theorem sumN_congr {f h : Nat → Nat} : ∀ {n : Nat}, (∀ u, u < n → f u = h u) → sumN n f = sumN n h
  | 0, _ => rfl
  | n + 1, e => by rw [sumN, sumN, sumN_congr (fun u hu => e u (by omega)), e n (by omega)]
theorem sumN_add {f h : Nat → Nat} : ∀ {n : Nat}, sumN n (fun u => f u + h u) = sumN n f + sumN n h
  | 0 => rfl
  | n + 1 => by rw [sumN, sumN, sumN, sumN_add]; omega
theorem sumN_le {f : Nat → Nat} {B : Nat} : ∀ {n : Nat}, (∀ u, u < n → f u ≤ B) → sumN n f ≤ n * B
  | 0, _ => by rw [sumN]; omega
  | n + 1, h => by
    have h1 := sumN_le (n := n) (fun u hu => h u (by omega))
    have h2 := h n (by omega)
    rw [sumN, Nat.add_mul]; omega
theorem sumI_N {f : Nat → Int32} {F : Nat → Nat} : ∀ {n : Nat}, (∀ u, u < n → f u = nI (F u)) → sumI n f = nI (sumN n F)
  | 0, _ => rfl
  | n + 1, h => by rw [sumI, sumN, sumI_N (fun u hu => h u (by omega)), h n (by omega), nI_add]
/-- half of a symmetric square -/
theorem half_sq {c : Nat → Nat → Nat} : ∀ {n : Nat}, (∀ u v, u < n → v < n → c u v = c v u) → (∀ u, u < n → c u u = 0) → sumN n (fun u => sumN n (c u)) = 2 * sumN n (fun u => sumN u (c u))
  | 0, _, _ => rfl
  | n + 1, hs, h0 => by
    have ih := half_sq (n := n) (fun u v hu hv => hs u v (by omega) (by omega)) (fun u hu => h0 u (by omega))
    have e1 : sumN n (fun u => sumN (n + 1) (c u)) = sumN n (fun u => sumN n (c u)) + sumN n (c n) := by
      have : sumN n (fun u => sumN (n + 1) (c u)) = sumN n (fun u => sumN n (c u) + c n u) := sumN_congr fun u hu => by rw [sumN, hs u n (by omega) (by omega)]
      rw [this, sumN_add]
    rw [sumN, sumN, e1, ih, sumN, h0 n (by omega)]
    omega
theorem cntB_sum {x : Int32} : ∀ n, cntB x n = sumN n (fun v => if pbit x v then 1 else 0)
  | 0 => rfl
  | n + 1 => by rw [cntB, sumN, cntB_sum n]
theorem sumN_zero {f : Nat → Nat} : ∀ {n : Nat}, (∀ u, u < n → f u = 0) → sumN n f = 0
  | 0, _ => rfl
  | n + 1, h => by rw [sumN, sumN_zero (fun u hu => h u (by omega)), h n (by omega)]
theorem sumN_ext {f : Nat → Nat} {n : Nat} : ∀ {m : Nat}, n ≤ m → (∀ u, n ≤ u → u < m → f u = 0) → sumN m f = sumN n f
  | 0, h, _ => by rw [show n = 0 by omega]
  | m + 1, h, h0 => by
    rcases Nat.lt_or_ge n (m + 1) with q | q
    · rw [sumN, sumN_ext (m := m) (by omega) (fun u h1 h2 => h0 u h1 (by omega)), h0 m (by omega) (by omega)]; rfl
    · rw [show n = m + 1 by omega]
theorem half_all : ∀ t : Fin 200, (nI (2 * t.val)) / (2 : Int32) = nI t.val := by decide +kernel
/-- how many borders -/
def bordC (g : Nat → Int32) (u v : Nat) : Nat := if 0 < gB g u v then 1 else 0
def bordN (n : Nat) (g : Nat → Int32) : Nat := sumN n (fun u => sumN u (bordC g u))
section CT
variable {g area com : Nat → Int32} {cores dist has : Int32} {len nb outer places sets pop : Nat → Int32} {tol units : Int32} {n k : Nat}
theorem nbS_lt (hn : n ≤ 12) (u : Nat) : ∀ v, pbit (nbS n g u) v = true → v < 12 := fun v h => by
  have := ((pbit_mkS (by omega)).mp h).1
  omega
theorem pX9_countBorders (hR : MapR g n pop area com outer nb len cores) (hW : MapW g n) : fX9_countBorders nb (nI n) = some (nI (bordN n g)) := by
  have hn := hR.n12
  have hc : ∀ u, u < n → cntB (nbS n g u) 12 = sumN n (bordC g u) := fun u hu => by
    rw [cntB_sum, sumN_ext (n := n) hn (fun v h1 h2 => by
      unfold nbS
      rw [pbit_mkS' (by omega), decide_eq_false (by omega), Bool.false_and]; rfl)]
    refine sumN_congr fun v hv => ?_
    unfold nbS bordC
    rw [pbit_mkS' (by omega), decide_eq_true hv, Bool.true_and]
    by_cases c : 0 < gB g u v
    · rw [decide_eq_true c, if_pos rfl, if_pos c]
    · rw [decide_eq_false c, if_neg ff, if_neg c]
  rw [fX9_countBorders]
  have key := upS (fun m i s => fX9_countBorders_L4 nb (nI n) m (fun z => some (z / (2 : Int32))) s (nI i)) (fun i => nI (sumN i (fun u => cntB (nbS n g u) 12))) n (some (nI (bordN n g))) (fun m => ?_) (fun m i hi => ?_) 1000000 (by omega)
  · exact key
  · show fX9_countBorders_L4 nb (nI n) (m + 1) _ _ (nI n) = _
    rw [fX9_countBorders_L4, if_pos (nI_leS n (by omega)), sumN_congr hc, half_sq (fun u v hu hv => by
      unfold bordC
      rw [hW.sym u v hu hv]) (fun u hu => by
      obtain ⟨b, _, e1, e2, e3⟩ := hW.2 u u hu hu
      unfold bordC
      rw [e1, e3 rfl]; rfl)]
    have hb : bordN n g ≤ 12 * 12 := by
      have := sumN_le (n := n) (B := 12) (f := fun u => sumN u (bordC g u)) (fun u hu => by
        have := sumN_le (n := u) (B := 1) (f := bordC g u) (fun v _ => by unfold bordC; split <;> omega)
        omega)
      have : n * 12 ≤ 12 * 12 := Nat.mul_le_mul_right 12 hn
      unfold bordN
      omega
    show some (nI (2 * bordN n g) / 2) = _
    rw [half_all ⟨bordN n g, by omega⟩]
  · show fX9_countBorders_L4 nb (nI n) (m + 1) _ _ (nI i) = fX9_countBorders_L4 nb (nI n) m _ (nI (sumN i _ + cntB (nbS n g i) 12)) (nI (i + 1))
    rw [fX9_countBorders_L4, if_neg (nI_ge hi (by omega)), if_pos ((inR_nI (by omega)).mpr (by omega)), nI_clamp (by omega), hR.nb hi, bitc (nbS_lt hn i), bind_s, nI_1, nI_add]
theorem pX11_count_L71 (hg : g 204 = nI n) (hn : n ≤ 12) (kf : Int32 → Option (Int32 × Int32)) : fX11_count_L71 g 1000000 kf 0 0 = kf (nI (bordN n g)) := by
  have inner : ∀ (u : Nat) (s : Nat) (kf : Int32 → Option (Int32 × Int32)), u < n → fX11_count_L86 g (nI u) 1000000 kf (nI s) 0 = kf (nI (s + sumN u (bordC g u))) := by
    intro u s kf hu
    refine upS (fun m i z => fX11_count_L86 g (nI u) m kf z (nI i)) (fun i => nI (s + sumN i (bordC g u))) u _ (fun m => ?_) (fun m i hi => ?_) 1000000 (by omega)
    · show fX11_count_L86 g (nI u) (m + 1) kf _ (nI u) = _
      rw [fX11_count_L86, if_pos (nI_leS u (by omega))]
    · show fX11_count_L86 g (nI u) (m + 1) kf _ (nI i) = fX11_count_L86 g (nI u) m kf (nI (s + (sumN i (bordC g u) + bordC g u i))) (nI (i + 1))
      rw [fX11_count_L86, if_neg (nI_ge hi (by omega)), pX11_borderOf (by omega) (by omega), bind_s, nI_1, ← Nat.add_assoc]
      have eb : bordC g u i = if 0 < gB g u i then 1 else 0 := rfl
      rw [eb]
      by_cases c : gB g u i ≤ 0
      · rw [if_pos c, if_neg (by rw [lt_nle]; exact fun q => q c), add_0]; rfl
      · rw [if_neg c, if_pos (by rw [lt_nle]; exact c), nI_1]
  refine upS (fun m i z => fX11_count_L71 g m kf z (nI i)) (fun i => nI (sumN i (fun u => sumN u (bordC g u)))) n _ (fun m => ?_) (fun m i hi => ?_) 1000000 (by omega)
  · show fX11_count_L71 g (m + 1) kf _ (nI n) = _
    rw [fX11_count_L71, k204, hg, if_pos (nI_leS n (by omega))]; rfl
  · show fX11_count_L71 g (m + 1) kf _ (nI i) = fX11_count_L71 g m kf (nI (sumN i _ + sumN i (bordC g i))) (nI (i + 1))
    rw [fX11_count_L71, k204, hg, if_neg (nI_ge hi (by omega)), inner i _ _ hi, nI_1]
/-! parts -/
theorem parts_lock (hR : MapR g n pop area com outer nb len cores) (kf : Int32 → Option Int32) (kfM : Int32 → Option (Int32 × Int32)) : ∀ (d m m' parts : Nat) (left : Int32), (∀ v, pbit left v = true → v < n) → cntB left 12 + parts ≤ n → cntB left 12 ≤ d → d < m → d < m' → ∃ p, fX9_countParts_L7 nb (nI n) m kf (nI parts) left = kf (nI p) ∧ fX11_count_L188 g m' kfM (nI parts) left = kfM (nI p) := by
  have hn := hR.n12
  intro d
  induction d with
  | zero =>
    intro m m' parts left hl h1 h2 h3 h4
    obtain ⟨m, rfl⟩ : ∃ t, m = t + 1 := ⟨m - 1, by omega⟩
    obtain ⟨m', rfl⟩ : ∃ t, m' = t + 1 := ⟨m' - 1, by omega⟩
    have h0 : left = 0 := eq0_bit.mpr fun u => by
      cases hb : pbit left u with
      | false => rfl
      | true =>
        have := cntB_pos hb (show u < 12 by have := hl u hb; omega)
        omega
    exact ⟨parts, by rw [fX9_countParts_L7, if_pos h0], by rw [fX11_count_L188, if_pos h0]⟩
  | succ d ih =>
    intro m m' parts left hl h1 h2 h3 h4
    obtain ⟨m, rfl⟩ : ∃ t, m = t + 1 := ⟨m - 1, by omega⟩
    obtain ⟨m', rfl⟩ : ∃ t, m' = t + 1 := ⟨m' - 1, by omega⟩
    by_cases h0 : left = 0
    · exact ⟨parts, by rw [fX9_countParts_L7, if_pos h0], by rw [fX11_count_L188, if_pos h0]⟩
    · have hl12 : ∀ v, pbit left v = true → v < 12 := fun v hv => by have := hl v hv; omega
      obtain ⟨v, hv⟩ := low_ne hl12 h0
      have hvl := lowS_sub hv
      have hr := (reachS_is (nb := nbS n g) (n := n) hn hl12).1 v hv
      have hlt : cntB (left &&& (reachS n (nbS n g) left ^^^ (-1 : Int32))) 12 < cntB left 12 := cntB_lt (fun u hu => by rw [pbit_and, Bool.and_eq_true] at hu; exact hu.1) hvl (by rw [pbit_and, pbit_not _ (pbit_lt hvl), hr]; simp) 12 (hl12 v hvl)
      rw [fX9_countParts_L7, if_neg h0, if_neg (nI_ge (show parts < n by omega) (by omega)), pX9_reach hn hl12, bind_s, reachS_congr (nb' := nbS n g) hn hl12 (fun u hu => hR.nb hu), fX11_count_L188, if_neg h0, pX11_reached hR.g204 hn hl12, bind_s, nI_1]
      exact ih m m' (parts + 1) _ (fun u hu => by rw [pbit_and, Bool.and_eq_true] at hu; exact hl u hu.1) (by omega) (by omega) (by omega) (by omega)
/-! communities -/
def commB (n : Nat) (g : Nat → Int32) (set : Int32) (c : Nat) : Bool := anyB n (fun u => decide (g (5 * u + 2) = nI c) && pbit set u)
def commS (n : Nat) (g : Nat → Int32) (set : Int32) : Int32 := sumI 4 (fun c => if commB n g set c then 1 else 0)
theorem pX9_countCommunities {set : Int32} (hR : MapR g n pop area com outer nb len cores) : fX9_countCommunities com (nI n) set = some (commS n g set) := by
  have hn := hR.n12
  rw [fX9_countCommunities]
  refine upS (fun m i s => fX9_countCommunities_L4 com (nI n) set m (fun z => some z) s (nI i)) (fun i => sumI i (fun c => if commB n g set c then 1 else 0)) 4 _ (fun m => ?_) (fun m i hi => ?_) 1000000 (by omega)
  · show fX9_countCommunities_L4 com (nI n) set (m + 1) _ _ (nI 4) = _
    rw [fX9_countCommunities_L4, if_pos (show (4 : Int32) ≤ nI 4 by decide)]; rfl
  · show fX9_countCommunities_L4 com (nI n) set (m + 1) _ _ (nI i) = fX9_countCommunities_L4 com (nI n) set m _ (sumI i _ + if commB n g set i then 1 else 0) (nI (i + 1))
    rw [fX9_countCommunities_L4, if_neg (ge4 hi), pX9_membersOf hn, bind_s, nI_1]
    have key : (memS n com (nI i) &&& set = 0) ↔ commB n g set i = false := by
      unfold commB
      rw [eq0_bit, anyB_false]
      constructor
      · intro q u hu
        have := q u
        unfold memS at this
        rw [pbit_and, pbit_mkS' (by omega), decide_eq_true hu, Bool.true_and, hR.com hu] at this
        exact this
      · intro q u
        unfold memS
        rw [pbit_and, pbit_mkS' (by omega)]
        by_cases hu : u < n
        · rw [decide_eq_true hu, Bool.true_and, hR.com hu]; exact q u hu
        · rw [decide_eq_false hu, Bool.false_and, Bool.false_and]
    cases hb : commB n g set i with
    | false => rw [if_pos (key.mpr hb), if_neg ff, add_0]
    | true => rw [if_neg (fun q => by rw [key.mp q] at hb; cases hb), if_pos rfl]
theorem pX11_communities {set : Int32} (hg : g 204 = nI n) (hn : n ≤ 12) (hW : MapW g n) : fX11_communities g set = some (commS n g set) := by
  rw [fX11_communities]
  have L1 : ∀ kf : Int32 → Option Int32, fX11_communities_L4 g set 1000000 kf 0 0 = kf (orI n (fun u => if pbit set u then (if g (5 * u + 2) < 0 then 0 else (1 : Int32) <<< (g (5 * u + 2) &&& 31)) else 0)) := by
    intro kf
    refine upS (fun m i s => fX11_communities_L4 g set m kf s (nI i)) (fun i => orI i (fun u => if pbit set u then (if g (5 * u + 2) < 0 then 0 else (1 : Int32) <<< (g (5 * u + 2) &&& 31)) else 0)) n _ (fun m => ?_) (fun m i hi => ?_) 1000000 (by omega)
    · show fX11_communities_L4 g set (m + 1) kf _ (nI n) = _
      rw [fX11_communities_L4, k204, hg, if_pos (nI_leS n (by omega))]
    · show fX11_communities_L4 g set (m + 1) kf _ (nI i) = fX11_communities_L4 g set m kf (orI i _ ||| if pbit set i then (if g (5 * i + 2) < 0 then 0 else (1 : Int32) <<< (g (5 * i + 2) &&& 31)) else 0) (nI (i + 1))
      rw [fX11_communities_L4, k204, hg, if_neg (nI_ge hi (by omega)), nI_1, show (2 : Int32) = nI 2 from rfl, pX11_of (by omega) (by omega), bind_s, bind_s]
      cases hb : pbit set i with
      | false => rw [if_neg (by rw [shr_eq1 _ (by omega), hb]; decide), if_neg ff]
      | true =>
        rw [if_pos ((shr_eq1 _ (by omega)).mpr hb), if_pos rfl]
        split <;> rfl
  rw [L1]
  have hseen : ∀ c, c < 4 → pbit (orI n (fun u => if pbit set u then (if g (5 * u + 2) < 0 then 0 else (1 : Int32) <<< (g (5 * u + 2) &&& 31)) else 0)) c = commB n g set c := by
    intro c hc
    rw [Bool.eq_iff_iff, pbit_orI]
    unfold commB
    rw [anyB_iff]
    refine exists_congr fun u => and_congr_right fun hu => ?_
    rw [Bool.and_eq_true, decide_eq_true_eq]
    cases hb : pbit set u with
    | false => rw [if_neg ff, pbit_0]; simp
    | true =>
      rw [if_pos rfl]
      rcases (hW.1 u hu).2.2.1 with e | ⟨c', hc', e⟩
      · rw [e, if_pos (by decide), pbit_0]
        refine ⟨fun q => absurd q (by decide), fun q => absurd q.1.symm (nI_m1 (by omega))⟩
      · rw [e, if_neg (show ¬ nI c' < (0 : Int32) from nI_nlt (Nat.zero_le c') (by omega)), pbit_shl (by omega), decide_eq_true_eq]
        exact ⟨fun q => ⟨by rw [q], rfl⟩, fun q => nI_inj (by omega) (by omega) q.1⟩
  generalize orI n (fun u => if pbit set u then (if g (5 * u + 2) < 0 then 0 else (1 : Int32) <<< (g (5 * u + 2) &&& 31)) else 0) = seen at hseen ⊢
  refine upS (fun m i s => fX11_communities_L60 seen m (fun z => some z) s (nI i)) (fun i => sumI i (fun c => if commB n g set c then 1 else 0)) 4 _ (fun m => ?_) (fun m i hi => ?_) 1000000 (by omega)
  · show fX11_communities_L60 seen (m + 1) _ _ (nI 4) = _
    rw [fX11_communities_L60, if_pos (show (4 : Int32) ≤ nI 4 by decide)]; rfl
  · show fX11_communities_L60 seen (m + 1) _ _ (nI i) = fX11_communities_L60 seen m _ (sumI i _ + if commB n g set i then 1 else 0) (nI (i + 1))
    rw [fX11_communities_L60, if_neg (ge4 hi), nI_1, pbit_shr _ (by omega), hseen i hi]
theorem op_count {input tape : Nat → Int32} {il taped : Int32} (h : WR g area com cores dist has len nb outer places sets pop tol units) (hI : InR input il tape taped) (x : Int32) : ∃ r b th, fX10_count il area com dist has nb pop tol units x = some r ∧ fX11_count g taped x = some (b, th) ∧ ansR ["java/lang/IllegalArgumentException"] r b th := by
  obtain ⟨n, k, rfl, hR, hW, hX, rfl, e3, e4, e5, rfl, ⟨t, e7, e8⟩, rfl, e10, e11⟩ := h
  have hn := hR.n12
  rw [fX10_count, fX11_count, k204, hR.g204, k205, e3, k206, k219]
  by_cases x0 : x = 0
  · rw [if_pos x0, if_pos x0]; exact ⟨_, _, _, rfl, rfl, rfl, rfl⟩
  rw [if_neg x0, if_neg x0]
  by_cases x1 : x = 1
  · rw [if_pos x1, if_pos x1, pX9_countBorders hR hW, bind_s, pX11_count_L71 hR.g204 hn]; exact ⟨_, _, _, rfl, rfl, rfl, rfl⟩
  rw [if_neg x1, if_neg x1]
  by_cases x2 : x = 2
  · rw [if_pos x2, if_pos x2, pX9_allUnits, bind_s, pX9_populationOf hn, bind_s, pX11_all hR.g204, bind_s, x2, show (2 : Int32) - 2 = nI 0 by decide, pX11_sum hR.g204 hn (by decide), bind_s, ssum_congr (fun u hu => hR.pop hu)]; exact ⟨_, _, _, rfl, rfl, rfl, rfl⟩
  rw [if_neg x2, if_neg x2]
  by_cases x3 : x = 3
  · rw [if_pos x3, if_pos x3, pX9_allUnits, bind_s, pX9_areaOf hn, bind_s, pX11_all hR.g204, bind_s, x3, show (3 : Int32) - 2 = nI 1 by decide, pX11_sum hR.g204 hn (by decide), bind_s, ssum_congr (fun u hu => hR.area hu)]; exact ⟨_, _, _, rfl, rfl, rfl, rfl⟩
  rw [if_neg x3, if_neg x3]
  by_cases x4 : x = 4
  · rw [if_pos x4, if_pos x4]; exact ⟨_, _, _, rfl, rfl, rfl, rfl⟩
  rw [if_neg x4, if_neg x4]
  by_cases x5 : x = 5
  · rw [if_pos x5, if_pos x5]; exact ⟨_, _, _, rfl, rfl, rfl, rfl⟩
  rw [if_neg x5, if_neg x5]
  by_cases x6 : x = 6
  · rw [if_pos x6, if_pos x6]
    rcases e10 with h0 | h1
    · rw [if_pos h0]; exact ⟨_, _, _, rfl, rfl, rfl, h0.symm⟩
    · rw [if_neg (by rw [h1]; exact n10)]; exact ⟨_, _, _, rfl, rfl, rfl, h1.symm⟩
  rw [if_neg x6, if_neg x6]
  by_cases x7 : x = 7
  · have hc : cntB (allS n) 12 + 0 ≤ n := by
      rw [cntB_sum, sumN_ext (n := n) hn (fun u h1 _ => by rw [pbit_allS hn, decide_eq_false (by omega)]; rfl)]
      have := sumN_le (n := n) (B := 1) (f := fun v => if pbit (allS n) v then 1 else 0) (fun u _ => by show (if _ then 1 else 0) ≤ 1; split <;> omega)
      omega
    obtain ⟨p, f1, f2⟩ := parts_lock hR (fun z => some z) (fun z188_2 => (fX11_done z188_2).bind (fun q28 => some (q28.1, q28.2))) 12 1000000 1000000 0 (allS n) (fun v hv => by rw [pbit_allS hn] at hv; exact of_decide_eq_true hv) hc (by omega) (by omega) (by omega)
    rw [if_pos x7, if_pos x7, fX9_countParts, pX9_allUnits, bind_s, pX11_all hR.g204, bind_s]
    rw [show fX9_countParts_L7 nb (nI n) 1000000 (fun z => some z) 0 (allS n) = _ from f1, bind_s]
    exact ⟨_, _, _, rfl, f2, rfl, rfl⟩
  rw [if_neg x7, if_neg x7]
  by_cases x8 : x = 8
  · rw [if_pos x8, if_pos x8, pX9_allUnits, bind_s, pX9_countCommunities hR, bind_s, pX11_all hR.g204, bind_s, pX11_communities hR.g204 hn hW, bind_s]; exact ⟨_, _, _, rfl, rfl, rfl, rfl⟩
  rw [if_neg x8, if_neg x8]
  by_cases x9 : x = 9
  · rw [if_pos x9, if_pos x9]; exact ⟨_, _, _, rfl, rfl, rfl, hI.1⟩
  rw [if_neg x9, if_neg x9]
  exact ⟨_, _, _, rfl, rfl, by decide +kernel, by decide +kernel⟩
end CT
