/-! THE PURE PART: intervals and best years on both sides -/
def ivN (S : Nat → Bool) : Int := yf (bgn S) (fun _ (a : Int) => a + 1) 1000 0 0
/-- the k-th beginning -/
def ivG (S : Nat → Bool) : Nat → Nat → Nat → Nat
  | 0, _, _ => 1000
  | d + 1, y, k => if bgn S y = true then (if k = 0 then y else ivG S d (y + 1) (k - 1)) else ivG S d (y + 1) k
def ivK (S : Nat → Bool) (k : Nat) : Nat := ivG S 1000 0 k
def bestS (T : Td) (S : Nat → Bool) (s : Nat) : Int := (yf S (bstp (fun y => misS T (T 1) s y)) 1000 0 (-1, 0)).1
theorem ivG_skip {S : Nat → Bool} (d : Nat) : ∀ (j y k : Nat), (∀ z, y ≤ z → z < y + j → bgn S z = false) → ivG S (j + d) y k = ivG S d (y + j) k := by
  intro j
  induction j with
  | zero => intro y k _; rw [Nat.zero_add]; rfl
  | succ j ih =>
    intro y k h
    rw [show j + 1 + d = (j + d) + 1 by omega]
    show (if bgn S y = true then _ else ivG S (j + d) (y + 1) k) = _
    rw [h y (by omega) (by omega), if_neg (by decide), ih (y + 1) k (fun z z1 z2 => h z (by omega) (by omega)), show y + 1 + j = y + (j + 1) by omega]
theorem ivG_to {S : Nat → Bool} {y y2 k : Nat} (h1 : y ≤ y2) (h2 : y2 ≤ 1000) (h : ∀ z, y ≤ z → z < y2 → bgn S z = false) : ivG S (1000 - y) y k = ivG S (1000 - y2) y2 k := by
  have := ivG_skip (1000 - y2) (y2 - y) y k (fun z z1 z2 => h z z1 (by omega))
  rw [show y2 - y + (1000 - y2) = 1000 - y by omega, show y + (y2 - y) = y2 by omega] at this
  exact this
theorem ivG_at {S : Nat → Bool} {y k : Nat} (hy : y < 1000) (h : bgn S y = true) : ivG S (1000 - y) y k = if k = 0 then y else ivG S (1000 - (y + 1)) (y + 1) (k - 1) := by
  rw [show 1000 - y = (1000 - (y + 1)) + 1 by omega]
  exact if_pos h
theorem ivG_end {S : Nat → Bool} (k : Nat) : ivG S (1000 - 1000) 1000 k = 1000 := rfl
theorem ivG_le {S : Nat → Bool} : ∀ (d y k : Nat), y + d = 1000 → ivG S d y k ≤ 1000 ∧ (ivG S d y k < 1000 → S (ivG S d y k) = true) := by
  intro d
  induction d with
  | zero => intro y k _; exact ⟨Nat.le_refl _, fun h => by exact absurd h (by show ¬ (1000 : Nat) < 1000; omega)⟩
  | succ d ih =>
    intro y k h
    have e : ivG S (d + 1) y k = if bgn S y = true then (if k = 0 then y else ivG S d (y + 1) (k - 1)) else ivG S d (y + 1) k := rfl
    rw [e]
    by_cases q : bgn S y = true
    · rw [if_pos q]
      split
      · refine ⟨by omega, fun _ => ?_⟩
        unfold bgn at q
        rw [Bool.and_eq_true] at q
        exact q.1
      · exact ih _ _ (by omega)
    · rw [if_neg q]
      exact ih _ _ (by omega)
theorem first_bgn {S : Nat → Bool} : (∀ z, z < nx S 0 → bgn S z = false) ∧ (nx S 0 < 1000 → S (nx S 0) = true ∧ bgn S (nx S 0) = true) := by
  refine ⟨fun z hz => ?_, fun h => ?_⟩
  · unfold bgn
    rw [nx_no (p := S) (i := 0) (by omega) hz]
    rfl
  · have a := nx_yes (p := S) (i := 0) h
    refine ⟨a, ?_⟩
    unfold bgn
    rw [a]
    by_cases q : nx S 0 = 0
    · rw [decide_eq_true q]; rfl
    · rw [nx_no (p := S) (i := 0) (j := nx S 0 - 1) (by omega) (by omega)]
      simp
section IV
variable {g : Bool} {n : Nat} {c : Nat × Nat × Nat × Nat} {I : Nat → Nat → Int} {W : Nat → Nat → BitVec 64} {p : Nat → Nat} {b : Nat} {N : NS} {T : Td}
/-- a row's words as a set -/
def RowS (f : Nat → BitVec 64) (S : Nat → Bool) : Prop := ∀ y, y < 1024 → wb f y = (decide (y < 1000) && S y)
theorem RowS.clean {f : Nat → BitVec 64} {S : Nat → Bool} (h : RowS f S) : clean f := fun y y1 y2 => by rw [h y y2, decide_eq_false (by omega), Bool.false_and]
theorem RowS.at {f : Nat → BitVec 64} {S : Nat → Bool} (h : RowS f S) {y : Nat} (hy : y < 1000) : wb f y = S y := by rw [h y (by omega), decide_eq_true hy, Bool.true_and]
theorem r_nextIn {a : Nat} {S : Nat → Bool} (ha : HC g a = (52, 16)) (h : RowS (W a) S) (s : Nat) : D_X7_nextIn a (s : Int) (st g n c I W p) = some ((if s < 1000 then nx S s else 1000 : Nat) : Int) := by
  rw [nextIn_k ha h.clean s]
  by_cases q : s < 1000
  · rw [if_pos q, if_pos q, nx_cong (by omega) (fun j hj => h.at hj)]
  · rw [if_neg q, if_neg q]
theorem r_nextOut {a : Nat} {S : Nat → Bool} (ha : HC g a = (52, 16)) (h : RowS (W a) S) (s : Nat) : D_X7_nextOut a (s : Int) (st g n c I W p) = some ((if s < 1000 then nx (fun z => !S z) s else 1000 : Nat) : Int) := by
  rw [nextOut_k ha s]
  by_cases q : s < 1000
  · rw [if_pos q, if_pos q, nx_cong (p := fun y => !wb (W a) y) (q := fun z => !S z) (by omega) (fun j hj => by show (!wb (W a) j) = (!S j); rw [h.at hj])]
  · rw [if_neg q, if_neg q]
theorem x7_intervals {a : Nat} {S : Nat → Bool} (ha : HC g a = (52, 16)) (h : RowS (W a) S) : D_X7_intervals a (st g n c I W p) = some (ivN S) := by
  have L : ∀ (d k f y : Nat), k + d = 1000 → d < f → k ≤ y → y ≤ 1000 → (y < 1000 → S y = true ∧ bgn S y = true) → D_X7_intervals_10 f a (k : Int) (y : Int) (k : Nat) (st g n c I W p) = some (yf (bgn S) (fun _ (a : Int) => a + 1) (1000 - y) y (k : Int)) := by
    intro d
    induction d with
    | zero =>
      intro k f y hk hf h1 h2 h3
      obtain ⟨f, rfl⟩ : ∃ g, f = g + 1 := ⟨f - 1, by omega⟩
      have e : y = 1000 := by omega
      subst e
      exact if_pos (by omega)
    | succ d ih =>
      intro k f y hk hf h1 h2 h3
      obtain ⟨f, rfl⟩ : ∃ g, f = g + 1 := ⟨f - 1, by omega⟩
      show (if (1000 : Int) ≤ (k : Nat) then _ else _) = _
      rw [if_neg (by omega)]
      by_cases q : y = 1000
      · subst q
        exact if_pos (by omega)
      · rw [if_neg (by omega)]
        obtain ⟨h4, h5⟩ := h3 (by omega)
        obtain ⟨e1, e2, e3, e4⟩ := next_bgn (by omega : y < 1000) h4
        have eo := r_nextOut (n := n) (c := c) (I := I) (p := p) (g := g) ha h y
        rw [if_pos (by omega)] at eo
        generalize nx (fun z => !S z) y = e at *
        have ei := r_nextIn (n := n) (c := c) (I := I) (p := p) (g := g) ha h e
        obtain ⟨t1, t2, t3, t4⟩ := e4
        generalize (if e < 1000 then nx S e else 1000) = y2 at *
        refine bdk eo (bdk ei ?_)
        rw [mw_n (by omega), ih (k + 1) f y2 (by omega) (by omega) (by omega) t2 t4, yf_at (by omega) h5, yf_to (y := y + 1) (y2 := y2) (by omega) t2 (fun z z1 z2 => t3 z (by omega) z2)]
        rfl
  have e0 := r_nextIn (n := n) (c := c) (I := I) (p := p) (g := g) ha h 0
  rw [if_pos (by decide)] at e0
  have f0 := first_bgn (S := S)
  have l0 := nx_le (p := S) (i := 0) (by decide)
  unfold D_X7_intervals
  refine bdk e0 (bdk (L 1000 0 mFU (nx S 0) rfl (by decide) (Nat.zero_le _) l0 f0.2) ?_)
  unfold ivN
  have := yf_to (q := bgn S) (stp := fun _ (a : Int) => a + 1) (y := 0) (y2 := nx S 0) (a := 0) (Nat.zero_le _) l0 (fun z _ z2 => f0.1 z z2)
  rw [Nat.sub_zero] at this
  rw [this]
  rfl
theorem x7_intervalStart {a : Nat} {S : Nat → Bool} {K : Int} (ha : HC g a = (52, 16)) (h : RowS (W a) S) (hK : mIn K) : D_X7_intervalStart a K (st g n c I W p) = some ((if 0 ≤ K then ivK S K.toNat else 1000 : Nat) : Int) := by
  unfold mIn at hK
  have L : ∀ (d f y ps : Nat), y + d = 1000 → d < f → ps ≤ y → (y < 1000 → S y = true ∧ bgn S y = true) → 0 ≤ K → (ps : Int) ≤ K → D_X7_intervalStart_18 f a K (y : Int) (ps : Nat) (st g n c I W p) = some ((ivG S (1000 - y) y (K.toNat - ps) : Nat) : Int) := by
    intro d
    induction d using Nat.strongRecOn with
    | _ d ih =>
      intro f y ps hy hf hps h3 hK0 hK1
      obtain ⟨f, rfl⟩ : ∃ g, f = g + 1 := ⟨f - 1, by omega⟩
      by_cases q1 : K ≤ (ps : Int)
      · have ek : K.toNat - ps = 0 := by omega
        rw [ek]
        refine Eq.trans (if_pos q1) ?_
        by_cases q : y = 1000
        · subst q; rfl
        · rw [ivG_at (by omega) (h3 (by omega)).2, if_pos rfl]
      · show (if K ≤ (ps : Int) then _ else _) = _
        rw [if_neg q1]
        by_cases q : y = 1000
        · subst q
          exact if_pos (by omega)
        · rw [if_neg (by omega)]
          obtain ⟨h4, h5⟩ := h3 (by omega)
          obtain ⟨e1, e2, e3, e4⟩ := next_bgn (by omega : y < 1000) h4
          have eo := r_nextOut (n := n) (c := c) (I := I) (p := p) (g := g) ha h y
          rw [if_pos (by omega)] at eo
          generalize nx (fun z => !S z) y = e at *
          have ei := r_nextIn (n := n) (c := c) (I := I) (p := p) (g := g) ha h e
          obtain ⟨t1, t2, t3, t4⟩ := e4
          generalize (if e < 1000 then nx S e else 1000) = y2 at *
          refine bdk eo (bdk ei ?_)
          rw [mw_n (by omega), ih (1000 - y2) (by omega) f y2 (ps + 1) (by omega) (by omega) (by omega) t4 hK0 (by omega), ivG_at (by omega) h5, if_neg (by omega), ivG_to (y := y + 1) (y2 := y2) (by omega) t2 (fun z z1 z2 => t3 z (by omega) z2), show K.toNat - ps - 1 = K.toNat - (ps + 1) by omega]
  unfold D_X7_intervalStart D_X7_intervalStart_15
  by_cases q : 0 ≤ K
  · have e0 := r_nextIn (n := n) (c := c) (I := I) (p := p) (g := g) ha h 0
    rw [if_pos (by decide)] at e0
    have f0 := first_bgn (S := S)
    have l0 := nx_le (p := S) (i := 0) (by decide)
    rw [if_pos q, if_pos q]
    refine bdk e0 (bdk (L (1000 - nx S 0) mFU (nx S 0) 0 (by omega) (by unfold mFU; omega) (Nat.zero_le _) f0.2 q q) ?_)
    have := ivG_to (S := S) (y := 0) (y2 := nx S 0) (k := K.toNat) (Nat.zero_le _) l0 (fun z _ z2 => f0.1 z z2)
    rw [Nat.sub_zero] at this
    unfold ivK
    rw [this]
    rfl
  · rw [if_neg q, if_neg q]
    refine bdk (x := (1000 : Int)) ?_ rfl
    obtain ⟨f, hf⟩ : ∃ g, mFU = g + 1 := ⟨999999, rfl⟩
    rw [hf]
    exact if_pos (by omega)
theorem x0_bestYear {s : Nat} {S : Nat → Bool} (h : NB b) (hw : WF T) (hT : ClsT 34 T I) (hA : AgesC T I) (hs : (s : Int) < T 304) (hR : RowS (W (b + 15 + s)) S) : D_X0_bestYear b (s : Int) (st g n c I W p) = some (bestS T S s) := by
  have hn := hw.1
  unfold WFn at hn
  have s12 : s < 12 := by omega
  have ha : HC g (b + 15 + s) = (52, 16) := n0H15 h s12
  have L : ∀ (d k f y : Nat) (be le : Int), k + d = 1000 → d < f → k ≤ y → y ≤ 1000 → (y < 1000 → S y = true) → D_X0_bestYear_19 f b (s : Int) be le (y : Int) (k : Nat) (st g n c I W p) = some ((yf S (bstp (fun y => misS T (T 1) s y)) (1000 - y) y (be, le)).1) := by
    intro d
    induction d with
    | zero =>
      intro k f y be le hk hf h1 h2 h3
      obtain ⟨f, rfl⟩ : ∃ g, f = g + 1 := ⟨f - 1, by omega⟩
      have e : y = 1000 := by omega
      subst e
      exact if_pos (by omega)
    | succ d ih =>
      intro k f y be le hk hf h1 h2 h3
      obtain ⟨f, rfl⟩ : ∃ g, f = g + 1 := ⟨f - 1, by omega⟩
      show (if (1000 : Int) ≤ (k : Nat) then _ else _) = _
      rw [if_neg (by omega)]
      by_cases q : y = 1000
      · subst q
        exact if_pos (by omega)
      · rw [if_neg (by omega)]
        have mi := x0_misfit (n := n) (c := c) (W := W) (p := p) (g := g) h hw hT hA hs (by omega : y < 1000) (by omega : -500 ≤ T 1 ∧ T 1 ≤ 500)
        have ei := r_nextIn (n := n) (c := c) (I := I) (p := p) (g := g) ha hR (y + 1)
        have g1 : y + 1 ≤ (if y + 1 < 1000 then nx S (y + 1) else 1000) := by
          split
          · exact nx_ge _ _
          · omega
        have g2 : (if y + 1 < 1000 then nx S (y + 1) else 1000) ≤ 1000 := by
          split
          · exact nx_le (by omega)
          · omega
        have g3 : ∀ z, y + 1 ≤ z → z < (if y + 1 < 1000 then nx S (y + 1) else 1000) → S z = false := fun z z1 z2 => by
          by_cases w : y + 1 < 1000
          · rw [if_pos w] at z2; exact nx_no z1 z2
          · rw [if_neg w] at z2; omega
        have g4 : (if y + 1 < 1000 then nx S (y + 1) else 1000) < 1000 → S (if y + 1 < 1000 then nx S (y + 1) else 1000) = true := fun w => by
          by_cases v : y + 1 < 1000
          · rw [if_pos v] at w ⊢; exact nx_yes w
          · rw [if_neg v] at w; omega
        generalize (if y + 1 < 1000 then nx S (y + 1) else 1000) = y2 at *
        have go : ∀ be2 le2 : Int, D_X0_bestYear_76 (D_X0_bestYear_19 f) b (s : Int) be2 le2 (y : Int) (k : Int) (st g n c I W p) = some ((yf S (bstp (fun y => misS T (T 1) s y)) (1000 - (y + 1)) (y + 1) (be2, le2)).1) := by
          intro be2 le2
          unfold D_X0_bestYear_76
          refine bdk (n0R3 h) (bdk (n0A14 h (by omega) (by omega)) ?_)
          rw [mw_n (by omega)]
          refine bdk ei ?_
          rw [mw_n (by omega), ih (k + 1) f y2 be2 le2 (by omega) (by omega) (by omega) g2 g4, yf_to (y := y + 1) (y2 := y2) g1 g2 g3]
        rw [yf_at (by omega) (h3 (by omega))]
        refine bdk (n0R0 h) (bdk (t5R8 TB34) (bdk (t5A3 TB34 (by omega) (by omega)) (bdk (n0R0 h) (bdk (t5I TB34) (bdk (n0T h) ?_)))))
        rw [hT.1.2.1]
        refine bdk mi ?_
        unfold D_X0_bestYear_70
        by_cases q1 : be = -1
        · rw [if_pos q1, go]
          have : bstp (fun y => misS T (T 1) s y) y (be, le) = ((y : Int), misS T (T 1) s y) := if_pos (Or.inl q1)
          rw [this]
        · rw [if_neg q1]
          by_cases q2 : le ≤ misS T (T 1) s y
          · rw [if_pos q2, go]
            have : bstp (fun y => misS T (T 1) s y) y (be, le) = (be, le) := if_neg (fun w => w.elim q1 (fun v => by have v2 : misS T (T 1) s y < le := v; omega))
            rw [this]
          · rw [if_neg q2, go]
            have : bstp (fun y => misS T (T 1) s y) y (be, le) = ((y : Int), misS T (T 1) s y) := if_pos (Or.inr (by show misS T (T 1) s y < le; omega))
            rw [this]
  have e0 := r_nextIn (n := n) (c := c) (I := I) (p := p) (g := g) ha hR 0
  rw [if_pos (by decide)] at e0
  have l0 := nx_le (p := S) (i := 0) (by decide)
  unfold D_X0_bestYear
  refine bdk (n0R3 h) (bdk (n0A14 h (by omega) (by omega)) (bdk e0 (bdk (L 1000 0 mFU (nx S 0) (-1) 0 rfl (by decide) (Nat.zero_le _) l0 nx_yes) ?_)))
  have := yf_to (q := S) (stp := bstp (fun y => misS T (T 1) s y)) (y := 0) (y2 := nx S 0) (a := ((-1 : Int), (0 : Int))) (Nat.zero_le _) l0 (fun z _ z2 => nx_no (Nat.zero_le _) z2)
  rw [Nat.sub_zero] at this
  unfold bestS
  rw [this]
  rfl
end IV
