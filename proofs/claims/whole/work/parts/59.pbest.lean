/-! the best plan: class and reference -/
theorem maxOff_cg {n k : Nat} {g p q : Nat → Int32} (h : ∀ u, u < n → p u = q u) : ∀ d, maxOff n k g p d = maxOff n k g q d
  | 0 => rfl
  | d + 1 => by rw [maxOff, maxOff, maxOff_cg h d, setS_congr h]
theorem bestT_cg {n : Nat} {g p q : Nat → Int32} (h : ∀ u, u < n → p u = q u) : ∀ d, bestT n g p d = bestT n g q d
  | 0 => rfl
  | d + 1 => by
    have e1 : cT n g p d = cT n g q d := by unfold cT cPer cAr; rw [setS_congr h]
    have e2 : cB n g p d = cB n g q d := by unfold cB cPer; rw [setS_congr h]
    rw [bestT, bestT, bestT_cg h d, e1, e2]
theorem finM_cg {n k : Nat} {g p q : Nat → Int32} {w : Int32} (h : ∀ u, u < n → p u = q u) : finM n k g p w = finM n k g q w := by
  have e1 : cutS n g p = cutS n g q := sumI_congr fun u hu => sumI_congr fun v hv => by rw [h u hu, h v hv]
  have e2 : tornS n g p = tornS n g q := sumI_congr fun c _ => by rw [twoB_congr h]
  unfold finM measN
  rw [bestT_cg h, e1, e2, maxOff_cg h]
/-- how good a row is -/
noncomputable def rowM (n k : Nat) (g : Nat → Int32) (w : Int32) (l : List Nat) : Int64 × Int64 := finM n k g (arL (fun _ => 0) l) w
theorem rowM_eq {n k : Nat} {g q : Nat → Int32} {w : Int32} {l : List Nat} (hn : n ≤ 12) : finM n k g (arL q l) w = rowM n k g w l := finM_cg fun u hu => arL_at (by omega)
/-- the best so far and its number -/
abbrev BO : Type := Option (Nat × (Int64 × Int64))
def stepO (f : List Nat → Int64 × Int64) (w : Int32) (c : Nat) (o : BO) (r : List Nat) : BO := match o with
  | none => some (c, f r)
  | some s => if betB w (f r) s.2 then some (c, f r) else some s
def foldB (f : List Nat → Int64 × Int64) (w : Int32) : Nat → BO → List (List Nat) → BO
  | _, o, [] => o
  | c, o, r :: l => foldB f w (c + 1) (stepO f w c o r) l
theorem foldB_app {f : List Nat → Int64 × Int64} {w : Int32} {l2 : List (List Nat)} : ∀ {l1 : List (List Nat)} {c : Nat} {o : BO}, foldB f w c o (l1 ++ l2) = foldB f w (c + l1.length) (foldB f w c o l1) l2
  | [], _, _ => rfl
  | r :: l1, c, o => by
    rw [List.cons_append, foldB, foldB, foldB_app, List.length_cons, show c + 1 + l1.length = c + (l1.length + 1) by omega]
/-- what the reference keeps of it -/
def OB (c : Nat) (o : BO) (y : Int32) (ba bb : Int64) : Prop := (o = none ∧ c = 0 ∧ y = -1) ∨ ∃ s, o = some s ∧ c ≠ 0 ∧ y = nI s.1 ∧ (ba, bb) = s.2
theorem pX11_best_L39 {g q : Nat → Int32} {n k : Nat} {w : Int32} (hg : g 204 = nI n) (hn : n ≤ 12) (h1 : 1 ≤ n) (hgk : g 205 = nI k) (hw : MapW g n) (hk0 : 1 ≤ k) (hk : k ≤ 4) (kf : Int32 → Int64 → Int64 → Int64 → Int64 → Int32 → (Nat → Int32) → Option (Int32 × Int64 × Int64 × Int64 × Int64 × Int32 × (Nat → Int32) × Int32)) :
    ∀ (L : List (List Nat)) (x : List Nat) (c m : Nat) (o : BO) (y2 : Int32) (ab be ba bb : Int64) (dt : Int32), (∀ y ∈ x :: L, y.length = n ∧ ∀ d ∈ y, d < k) → ChT (nxt k 0) (x :: L) none → OB c o y2 ba bb → c + L.length < 20000 → L.length + 2 < m →
    ∃ (c' : Nat) (y2' : Int32) (ab' be' ba' bb' : Int64) (dt' : Int32) (y : List Nat), fX11_best_L39 g w m kf y2 (nI c) 1 ab be ba bb dt (arL q x) = kf y2' ab' be' ba' bb' dt' (arL q y) ∧ OB c' (foldB (rowM n k g w) w c o ((x :: L).filter (lawL n k g))) y2' ba' bb' := by
  intro L
  induction L with
  | nil =>
    intro x c m o y2 ab be ba bb dt hx hC hO hc hm
    obtain ⟨m, rfl⟩ : ∃ t, m = t + 2 := ⟨m - 2, by omega⟩
    obtain ⟨hl, hd⟩ := hx x List.mem_cons_self
    have hp := arL_m (q := q) hn hl hd
    have hnx : nxt k 0 x = none := hC
    have hgo := pX11_goesOn (q := q) hg hn h1 hgk hk0 hk hl hd
    rw [hnx] at hgo
    have hgo : fX11_goesOn g (arL q x) = some (0, arL q x) := hgo
    rw [fX11_best_L39, if_neg n10, pX11_reason hg hn hgk hk hp, bind_s]
    cases hlw : lawL n k g x with
    | true =>
      have e := (lawL_iff (q := q) hn).mp hlw
      rw [if_pos e, List.filter_cons_of_pos hlw, pX11_tellMeasure hg hn hgk hw h1 hk0 hk hp, bind_s, rowM_eq hn]
      show ∃ c' y2' ab' be' ba' bb' dt' y, _ ∧ OB c' (stepO (rowM n k g w) w c o x) y2' ba' bb'
      rcases hO with ⟨rfl, rfl, rfl⟩ | ⟨s, rfl, h3, h4, h5⟩
      · rw [if_pos (show nI 0 = (0 : Int32) from rfl), hgo, bind_s, fX11_best_L39, if_pos rfl]
        exact ⟨1, _, _, _, _, _, _, x, rfl, Or.inr ⟨(0, rowM n k g w x), rfl, by decide, rfl, rfl⟩⟩
      · rw [if_neg (show ¬ nI c = (0 : Int32) from fun e => h3 (nI_inj (by omega) (by omega) e)), pX11_isBetter hg hn hgk hw h1 hk0 hk hp, bind_s, rowM_eq hn, h5]
        have es : stepO (rowM n k g w) w c (some s) x = if betB w (rowM n k g w x) s.2 then some (c, rowM n k g w x) else some s := rfl
        rw [es]
        cases hb : betB w (rowM n k g w x) s.2 with
        | true =>
          rw [if_pos rfl, if_neg n10, hgo, bind_s, fX11_best_L39, if_pos rfl, if_pos rfl]
          exact ⟨c, _, _, _, _, _, _, x, rfl, Or.inr ⟨_, rfl, h3, rfl, rfl⟩⟩
        | false =>
          rw [if_neg ff, if_pos rfl, hgo, bind_s, fX11_best_L39, if_pos rfl, if_neg ff]
          exact ⟨c, _, _, _, _, _, _, x, rfl, Or.inr ⟨_, rfl, h3, h4, h5⟩⟩
    | false =>
      have e : ¬ (reasS n k g (arL q x)).1 = 0 := fun e => by rw [(lawL_iff hn).mpr e] at hlw; cases hlw
      rw [if_neg e, List.filter_cons_of_neg (by rw [hlw]; decide), hgo, bind_s, fX11_best_L39, if_pos rfl]
      exact ⟨c, _, _, _, _, _, _, x, rfl, hO⟩
  | cons y L ih =>
    intro x c m o y2 ab be ba bb dt hx hC hO hc hm
    obtain ⟨m, rfl⟩ : ∃ t, m = t + 2 := ⟨m - 2, by omega⟩
    rw [List.length_cons] at hm hc
    obtain ⟨hl, hd⟩ := hx x List.mem_cons_self
    have hp := arL_m (q := q) hn hl hd
    have hnx : nxt k 0 x = some y := hC.1
    have hgo := pX11_goesOn (q := q) hg hn h1 hgk hk0 hk hl hd
    rw [hnx] at hgo
    have hgo : fX11_goesOn g (arL q x) = some (1, arL q y) := hgo
    have hx' : ∀ w ∈ y :: L, w.length = n ∧ ∀ d ∈ w, d < k := fun w hw => hx w (List.mem_cons_of_mem _ hw)
    rw [fX11_best_L39, if_neg n10, pX11_reason hg hn hgk hk hp, bind_s]
    cases hlw : lawL n k g x with
    | true =>
      have e := (lawL_iff (q := q) hn).mp hlw
      rw [if_pos e, List.filter_cons_of_pos hlw, pX11_tellMeasure hg hn hgk hw h1 hk0 hk hp, bind_s, rowM_eq hn, foldB]
      rcases hO with ⟨rfl, rfl, rfl⟩ | ⟨s, rfl, h3, h4, h5⟩
      · rw [if_pos (show nI 0 = (0 : Int32) from rfl), hgo, bind_s]
        exact ih y 1 (m + 1) _ _ _ _ _ _ _ hx' hC.2 (Or.inr ⟨(0, rowM n k g w x), rfl, by decide, rfl, rfl⟩) (by omega) (by omega)
      · rw [if_neg (show ¬ nI c = (0 : Int32) from fun e => h3 (nI_inj (by omega) (by omega) e)), pX11_isBetter hg hn hgk hw h1 hk0 hk hp, bind_s, rowM_eq hn, h5, nI_1]
        have es : stepO (rowM n k g w) w c (some s) x = if betB w (rowM n k g w x) s.2 then some (c, rowM n k g w x) else some s := rfl
        rw [es]
        cases hb : betB w (rowM n k g w x) s.2 with
        | true =>
          rw [if_pos rfl, if_neg n10, hgo, bind_s, if_pos rfl]
          exact ih y (c + 1) (m + 1) _ _ _ _ _ _ _ hx' hC.2 (Or.inr ⟨_, rfl, by omega, rfl, rfl⟩) (by omega) (by omega)
        | false =>
          rw [if_neg ff, if_pos rfl, hgo, bind_s, if_neg ff]
          exact ih y (c + 1) (m + 1) _ _ _ _ _ _ _ hx' hC.2 (Or.inr ⟨_, rfl, by omega, h4, h5⟩) (by omega) (by omega)
    | false =>
      have e : ¬ (reasS n k g (arL q x)).1 = 0 := fun e => by rw [(lawL_iff hn).mpr e] at hlw; cases hlw
      rw [if_neg e, List.filter_cons_of_neg (by rw [hlw]; decide), hgo, bind_s]
      exact ih y c (m + 1) _ _ _ _ _ _ _ hx' hC.2 hO (by omega) (by omega)
/-- the best of the lawful rows -/
noncomputable def bestO (n k : Nat) (g : Nat → Int32) (w : Int32) : BO := foldB (rowM n k g w) w 0 none (lawR n k g)
theorem pX11_bestLoop {g plan : Nat → Int32} {n k : Nat} {w : Int32} {ab be ba bb : Int64} {dt : Int32} (hg : g 204 = nI n) (hn : n ≤ 9) (h1 : 1 ≤ n) (hgk : g 205 = nI k) (hw : MapW g n) (hk0 : 1 ≤ k) (hk : k ≤ 4) (kf : Int32 → Int64 → Int64 → Int64 → Int64 → Int32 → (Nat → Int32) → Option (Int32 × Int64 × Int64 × Int64 × Int64 × Int32 × (Nat → Int32) × Int32)) :
    ∃ (c' : Nat) (y2' : Int32) (ab' be' ba' bb' : Int64) (dt' : Int32) (y : List Nat), (fX11_begins plan).bind (fun q7 => fX11_best_L39 g w 1000000 kf (-1) 0 1 ab be ba bb dt q7) = kf y2' ab' be' ba' bb' dt' (arL plan y) ∧ OB c' (bestO n k g w) y2' ba' bb' := by
  obtain ⟨⟨L, hL⟩, hC⟩ := genL_chain hk0 n 0
  have hlen := lenG_le ⟨n, by omega⟩ ⟨k, by omega⟩
  have hlen : lenG k n 0 ≤ 11051 := hlen
  rw [← genL_len, hL, List.length_cons] at hlen
  rw [hL] at hC
  rw [pX11_begins (n := n), bind_s]
  have := pX11_best_L39 (q := plan) (w := w) hg (by omega) h1 hgk hw hk0 hk kf L (zer n) 0 1000000 none (-1) ab be ba bb dt (fun w hw => genL_ok hk0 (by rw [hL]; exact hw)) hC (Or.inl ⟨rfl, rfl, rfl⟩) (by omega) (by omega)
  unfold bestO lawR
  rw [hL]
  exact this
theorem take_at {l : List (List Nat)} {i : Nat} (h : i < l.length) : l.take (i + 1) = l.take i ++ [l.getD i []] := by
  rw [List.take_succ, List.getElem?_eq_getElem h, List.getD_eq_getElem?_getD, List.getElem?_eq_getElem h]; rfl
theorem pX0_findBest {g pop area com outer nb len codes : Nat → Int32} {n k : Nat} {cores w size : Int32} (h : MapR g n pop area com outer nb len cores) (hw : MapW g n) (h1 : 1 ≤ n) (hn : n ≤ 9) (hk0 : 1 ≤ k) (hk : k ≤ 4) (hL : ListR n k g codes size) (hne : (lawR n k g).length ≠ 0) (bb bt : Int64) (pp ps : Nat → Int32) (tb tt : Int64) :
    ∃ (s : Nat × (Int64 × Int64)) (bb' bt' : Int64) (pp' ps' : Nat → Int32) (tb' tt' : Int64), bestO n k g w = some s ∧ fX0_findBest area com (nI k) len outer pop (nI n) bb bt codes pp ps size tb tt w = some (nI s.1, bb', bt', pp', ps', tb', tt') := by
  have hcap := lawR_cap (g := g) hn hk0 hk
  have hlaw := hcap
  rw [fX0_findBest]
  obtain ⟨⟨y, b1, b2, p1, p2, t1, t2⟩, hI, e⟩ := upI (fun m i (s : Int32 × Int64 × Int64 × (Nat → Int32) × (Nat → Int32) × Int64 × Int64) => fX0_findBest_L5 area com (nI k) len outer pop (nI n) codes size w m (fun z1 z2 z3 z4 z5 z6 z7 => some (z1, z2, z3, z4, z5, z6, z7)) s.1 (nI i) s.2.1 s.2.2.1 s.2.2.2.1 s.2.2.2.2.1 s.2.2.2.2.2.1 s.2.2.2.2.2.2) (fun s => some s) (fun i s => (i = 0 ∧ s.1 = 0) ∨ ∃ t, foldB (rowM n k g w) w 0 none ((lawR n k g).take i) = some t ∧ i ≠ 0 ∧ s.1 = nI t.1 ∧ (s.2.2.1, s.2.1) = t.2) 0 (lawR n k g).length (Nat.zero_le _) (fun m s _ => by
      show fX0_findBest_L5 area com (nI k) len outer pop (nI n) codes size w (m + 1) _ _ (nI (lawR n k g).length) _ _ _ _ _ _ = _
      rw [fX0_findBest_L5, hL.1, if_pos (nI_leS _ (by omega))]) (fun m i s _ hi hI => by
      obtain ⟨y, b1, b2, p1, p2, t1, t2⟩ := s
      obtain ⟨p, s, e1, hP⟩ := pX0_copyPlan (p0 := p1) (s0 := p2) (q := fun _ => 0) hn hk0 hk hL hi hcap
      show ∃ s', _ ∧ fX0_findBest_L5 area com (nI k) len outer pop (nI n) codes size w (m + 1) _ y (nI i) b1 b2 p1 p2 t1 t2 = _
      rw [fX0_findBest_L5, hL.1, if_neg (nI_ge hi (by omega)), ← hL.1, e1, bind_s, pX6_weigh h hw h1 hk hP, bind_s, take_at hi, foldB_app, List.length_take, Nat.min_eq_left (Nat.le_of_lt hi), Nat.zero_add, nI_1]
      show ∃ s', ((i + 1 = 0 ∧ _) ∨ ∃ t, stepO (rowM n k g w) w i (foldB (rowM n k g w) w 0 none ((lawR n k g).take i)) ((lawR n k g).getD i []) = some t ∧ _) ∧ _
      rw [rowM_eq (by omega)]
      rcases hI with ⟨rfl, -⟩ | ⟨t, h2, h3, h4, h5⟩
      · rw [if_pos (show nI 0 = (0 : Int32) from rfl), fX1_copyFrom, bind_s]
        exact ⟨(_, _, _, _, _, _, _), Or.inr ⟨_, rfl, by omega, rfl, rfl⟩, rfl⟩
      · have h4 : y = nI t.1 := h4
        have h5 : (b2, b1) = t.2 := h5
        have hbet : fX6_isBetter (rowM n k g w ((lawR n k g).getD i [])).2 (rowM n k g w ((lawR n k g).getD i [])).1 b1 b2 w = some (if betB w (rowM n k g w ((lawR n k g).getD i [])) t.2 then 1 else 0) := by rw [← h5]; exact pX6_isBetter w _ (b2, b1)
        rw [if_neg (show ¬ nI i = (0 : Int32) from fun e => h3 (nI_inj (by omega) (by omega) e)), hbet, bind_s, h2]
        have es : stepO (rowM n k g w) w i (some t) ((lawR n k g).getD i []) = if betB w (rowM n k g w ((lawR n k g).getD i [])) t.2 then some (i, rowM n k g w ((lawR n k g).getD i [])) else some t := rfl
        rw [es]
        cases hb : betB w (rowM n k g w ((lawR n k g).getD i [])) t.2 with
        | true =>
          rw [if_pos rfl, if_pos rfl, if_neg n10, fX1_copyFrom, bind_s]
          exact ⟨(_, _, _, _, _, _, _), Or.inr ⟨_, rfl, by omega, rfl, rfl⟩, rfl⟩
        | false =>
          rw [if_neg ff, if_neg ff, if_pos rfl]
          exact ⟨(_, _, _, _, _, _, _), Or.inr ⟨_, rfl, by omega, h4, h5⟩, rfl⟩) 1000000 (0, bb, bt, pp, ps, tb, tt) (by omega) (Or.inl ⟨rfl, rfl⟩)
  rcases hI with ⟨h2, -⟩ | ⟨t, h2, -, h4, -⟩
  · exact absurd h2 hne
  · rw [List.take_length] at h2
    have h4 : y = nI t.1 := h4
    exact ⟨t, b1, b2, p1, p2, t1, t2, h2, by rw [← h4]; exact e⟩
