/-! THE PURE PART: intervals and best years of the reference; printing on both sides -/
theorem mi2l_k : ∀ k : Fin 1001, mi2l (k.1 : Nat) = BitVec.ofNat 64 k.1 := by decide +kernel
theorem mi2l_p : ∀ k : Fin 1000, BitVec.ofNat 64 (k.1 + 1) - 1 = BitVec.ofNat 64 k.1 := by decide +kernel
def pstp (S : Nat → Bool) (y : Nat) (v : BitVec 64) : BitVec 64 := ((31 : BitVec 64) * (((31 : BitVec 64) * v) + BitVec.ofNat 64 y)) + BitVec.ofNat 64 (nx (fun z => !S z) y - 1)
def prN (S : Nat → Nat → Bool) : Nat → Nat → BitVec 64 → BitVec 64
  | 0, _, v => v
  | d + 1, s, v => prN S d (s + 1) ((31 : BitVec 64) * yf (bgn (S s)) (pstp (S s)) 1000 0 v)
def printS (m : Nat) (S : Nat → Nat → Bool) : BitVec 64 := prN S m 0 0
section RI
variable {g : Bool} {n : Nat} {c : Nat × Nat × Nat × Nat} {I : Nat → Nat → Int} {W : Nat → Nat → BitVec 64} {p : Nat → Nat} {b : Nat} {N : NS} {T : Td} {S : Nat → Bool}
theorem x9_begins {a y : Nat} (x0 : Nat) (ha : HC true a = (53, 1000)) (hS : ∀ y, y < 1000 → I a y = bI (S y)) (hy : y < 1000) : D_X9_begins x0 a (y : Int) (st true n c I W p) = some (bI (bgn S y)) := by
  unfold D_X9_begins D_X9_begins_22 D_X9_begins_18 D_X9_begins_23
  refine bdk (s_lB (Or.inl rfl) ha (by omega) (by omega)) ?_
  rw [toN, hS y hy]
  unfold bgn
  cases q : S y
  · rfl
  · rw [if_neg (by decide)]
    by_cases z : y = 0
    · subst z
      rfl
    · rw [if_neg (by omega), mw_of (by omega) (by omega)]
      refine bdk (s_lB (Or.inl rfl) ha (by omega) (by omega)) ?_
      rw [show ((y : Int) - 1).toNat = y - 1 by omega, hS _ (by omega), decide_eq_false z]
      cases S (y - 1) <;> rfl
theorem x9_intervals {a : Nat} (ha : HC true a = (53, 1000)) (hS : ∀ y, y < 1000 → I a y = bI (S y)) : D_X9_intervals 1170 a (st true n c I W p) = some (ivN S) := by
  have L : ∀ (d y f : Nat) (k : Int), y + d = 1000 → d < f → 0 ≤ k ∧ k ≤ y → D_X9_intervals_4 f 1170 a k (y : Nat) (st true n c I W p) = some (yf (bgn S) (fun _ (a : Int) => a + 1) d y k) := by
    intro d
    induction d with
    | zero =>
      intro y f k hy hf hk
      obtain ⟨f, rfl⟩ : ∃ g, f = g + 1 := ⟨f - 1, by omega⟩
      exact if_pos (by omega)
    | succ d ih =>
      intro y f k hy hf hk
      obtain ⟨f, rfl⟩ : ∃ g, f = g + 1 := ⟨f - 1, by omega⟩
      show (if (1000 : Int) ≤ (y : Nat) then _ else _) = some (yf (bgn S) (fun _ (a : Int) => a + 1) d (y + 1) (if bgn S y = true then k + 1 else k))
      rw [if_neg (by omega)]
      refine bdk z9T (bdk (x9_begins 1170 ha hS (by omega)) ?_)
      unfold D_X9_intervals_26
      rw [mw_n (by omega)]
      cases q : bgn S y
      · rw [if_pos (show bI false = 0 from rfl), if_neg (by decide), mw_of (by omega) (by omega)]
        refine Eq.trans (ih (y + 1) f (k + 0) (by omega) (by omega) (by omega)) ?_
        rw [Int.add_zero]
      · rw [if_neg (by decide), if_pos rfl, mw_of (by omega) (by omega)]
        exact ih (y + 1) f (k + 1) (by omega) (by omega) (by omega)
  unfold D_X9_intervals
  exact bdk (L 1000 0 mFU 0 rfl (by decide) (by omega)) rfl
theorem x9_intervalFrom {s : Nat} {K : Int} (hs : s < 12) (hS : ∀ y, y < 1000 → I (1193 + s) y = bI (S y)) (hK : 0 ≤ K) : D_X9_intervalFrom 1170 (s : Int) K (st true n c I W p) = some (if ivK S K.toNat = 1000 then -1 else ((ivK S K.toNat : Nat) : Int)) := by
  have L : ∀ (d y f k : Nat), y + d = 1000 → d < f → (k : Int) ≤ K → k ≤ y → ∃ r : Unit ⊕ Int, D_X9_intervalFrom_5 f 1170 (s : Int) K (k : Int) (y : Nat) (st true n c I W p) = some r ∧ r.elim (fun _ => (-1 : Int)) id = if ivG S d y (K.toNat - k) = 1000 then -1 else ((ivG S d y (K.toNat - k) : Nat) : Int) := by
    intro d
    induction d with
    | zero =>
      intro y f k hy hf hk hky
      obtain ⟨f, rfl⟩ : ∃ g, f = g + 1 := ⟨f - 1, by omega⟩
      exact ⟨Sum.inl (), if_pos (by omega), rfl⟩
    | succ d ih =>
      intro y f k hy hf hk hky
      obtain ⟨f, rfl⟩ : ∃ g, f = g + 1 := ⟨f - 1, by omega⟩
      have e : ivG S (d + 1) y (K.toNat - k) = if bgn S y = true then (if K.toNat - k = 0 then y else ivG S d (y + 1) (K.toNat - k - 1)) else ivG S d (y + 1) (K.toNat - k) := rfl
      have head : ∀ {R : Option (Unit ⊕ Int)}, (if bI (bgn S y) ≠ 0 then (if (k : Int) ≠ K then D_X9_intervalFrom_42 (D_X9_intervalFrom_5 f) 1170 (s : Int) K (mw ((k : Int) + 1)) (y : Int) (st true n c I W p) else some (Sum.inr (y : Int))) else D_X9_intervalFrom_42 (D_X9_intervalFrom_5 f) 1170 (s : Int) K (k : Int) (y : Int) (st true n c I W p)) = R → D_X9_intervalFrom_5 (f + 1) 1170 (s : Int) K (k : Int) (y : Nat) (st true n c I W p) = R := by
        intro R hh
        show (if (1000 : Int) ≤ (y : Nat) then _ else _) = _
        rw [if_neg (by omega)]
        exact bdk z9R14 (bdk (z9A14 (by omega) (by omega)) (bdk z9T (bdk (x9_begins 1170 (rh14 s hs) hS (by omega)) hh)))
      cases q : bgn S y
      · obtain ⟨r, e1, e2⟩ := ih (y + 1) f k (by omega) (by omega) hk (by omega)
        have e' : ivG S (d + 1) y (K.toNat - k) = ivG S d (y + 1) (K.toNat - k) := by rw [e, q]; exact if_neg (by decide)
        refine ⟨r, head ?_, by rw [e']; exact e2⟩
        rw [q, if_neg (by decide)]
        unfold D_X9_intervalFrom_42
        rw [mw_n (by omega)]
        exact e1
      · by_cases z : (k : Int) = K
        · refine ⟨Sum.inr (y : Int), head ?_, ?_⟩
          · rw [q, if_pos (by decide), if_neg (fun w => w z)]
          · have e' : ivG S (d + 1) y (K.toNat - k) = y := by rw [e, q, if_pos rfl]; exact if_pos (by omega)
            rw [e', if_neg (by omega)]
            rfl
        · obtain ⟨r, e1, e2⟩ := ih (y + 1) f (k + 1) (by omega) (by omega) (by omega) (by omega)
          refine ⟨r, head ?_, ?_⟩
          · rw [q, if_pos (by decide), if_pos z]
            unfold D_X9_intervalFrom_42
            rw [mw_n (by omega), mw_n (by omega)]
            exact e1
          · have e' : ivG S (d + 1) y (K.toNat - k) = ivG S d (y + 1) (K.toNat - (k + 1)) := by rw [e, q, if_pos rfl, show K.toNat - k - 1 = K.toNat - (k + 1) by omega]; exact if_neg (by omega)
            rw [e']
            exact e2
  obtain ⟨r, e1, e2⟩ := L 1000 0 mFU 0 rfl (by decide) hK (Nat.le_refl _)
  unfold D_X9_intervalFrom ivK
  refine bdk e1 ?_
  rw [Nat.sub_zero] at e2
  rw [← e2]
  cases r <;> rfl
theorem x9_intervalTo {s y : Nat} (hs : s < 12) (hS : ∀ y, y < 1000 → I (1193 + s) y = bI (S y)) (hy : y < 1000) (hb : S y = true) : D_X9_intervalTo 1170 (s : Int) (y : Int) (st true n c I W p) = some ((nx (fun z => !S z) y - 1 : Nat) : Int) := by
  have L : ∀ (d z f : Nat), z + d = 999 → d < f → y ≤ z → (∀ w, y ≤ w → w ≤ z → S w = true) → D_X9_intervalTo_2 f 1170 (s : Int) (z : Nat) (st true n c I W p) = some ((nx (fun z => !S z) y - 1 : Nat) : Int) := by
    intro d
    induction d with
    | zero =>
      intro z f hz hf h1 h2
      obtain ⟨f, rfl⟩ : ∃ g, f = g + 1 := ⟨f - 1, by omega⟩
      have e : nx (fun z => !S z) y = 1000 := nx_is (by omega) (by omega) (fun j j1 j2 => by show (!S j) = false; rw [h2 j j1 (by omega)]; rfl) (fun w => by omega)
      rw [e]
      refine Eq.trans (if_pos (by omega)) ?_
      rw [show z = 999 by omega]
    | succ d ih =>
      intro z f hz hf h1 h2
      obtain ⟨f, rfl⟩ : ∃ g, f = g + 1 := ⟨f - 1, by omega⟩
      show (if (999 : Int) ≤ (z : Nat) then _ else _) = _
      rw [if_neg (by omega), mw_n (by omega)]
      refine bdk z9R14 (bdk (z9A14 (by omega) (by omega)) (bdk (z9L14 hs (by omega) (by omega)) ?_))
      rw [toN, toN, hS _ (by omega)]
      cases q : S (z + 1)
      · rw [if_pos (show bI false = 0 from rfl)]
        have e : nx (fun z => !S z) y = z + 1 := nx_is (by omega) (by omega) (fun j j1 j2 => by show (!S j) = false; rw [h2 j j1 (by omega)]; rfl) (fun w => by show (!S (z + 1)) = true; rw [q]; rfl)
        rw [e]
        rfl
      · rw [if_neg (by decide)]
        exact ih (z + 1) f (by omega) (by omega) (by omega) (fun w w1 w2 => by
          by_cases v : w = z + 1
          · rw [v]; exact q
          · exact h2 w w1 (by omega))
  unfold D_X9_intervalTo
  exact bdk (L (999 - y) y mFU (by omega) (by unfold mFU; omega) (Nat.le_refl _) (fun w w1 w2 => by rw [show w = y by omega]; exact hb)) rfl
theorem x9_bestYear {s : Nat} (hw : WF T) (hT : RefT T I) (hs : (s : Int) < T 304) (hS : ∀ y, y < 1000 → I (1193 + s) y = bI (S y)) : D_X9_bestYear 1170 (s : Int) (st true n c I W p) = some (bestS T S s) := by
  have hn := hw.1
  unfold WFn at hn
  have s12 : s < 12 := by omega
  have L : ∀ (d y f : Nat) (be le le2 : Int), y + d = 1000 → d < f → (be ≠ -1 → le = le2) → D_X9_bestYear_7 f 1170 (s : Int) be le (y : Nat) (st true n c I W p) = some ((yf S (bstp (fun y => misS T (T 1) s y)) d y (be, le2)).1) := by
    intro d
    induction d with
    | zero =>
      intro y f be le le2 hy hf hl
      obtain ⟨f, rfl⟩ : ∃ g, f = g + 1 := ⟨f - 1, by omega⟩
      exact if_pos (by omega)
    | succ d ih =>
      intro y f be le le2 hy hf hl
      obtain ⟨f, rfl⟩ : ∃ g, f = g + 1 := ⟨f - 1, by omega⟩
      have e : yf S (bstp (fun y => misS T (T 1) s y)) (d + 1) y (be, le2) = yf S (bstp (fun y => misS T (T 1) s y)) d (y + 1) (if S y = true then bstp (fun y => misS T (T 1) s y) y (be, le2) else (be, le2)) := rfl
      rw [e]
      show (if (1000 : Int) ≤ (y : Nat) then _ else _) = _
      rw [if_neg (by omega)]
      refine bdk z9R14 (bdk (z9A14 (by omega) (by omega)) (bdk (z9L14 s12 (by omega) (by omega)) ?_))
      rw [toN, toN, hS y (by omega)]
      unfold D_X9_bestYear_53 D_X9_bestYear_59
      rw [mw_n (by omega)]
      cases q : S y
      · rw [if_neg (by decide), if_neg (by decide)]
        exact ih (y + 1) f be le le2 (by omega) (by omega) hl
      · rw [if_pos (by decide), if_pos rfl]
        refine bdk z9T (bdk (x9_misfit hw hT hs (by omega)) ?_)
        by_cases q1 : be = -1
        · have : bstp (fun y => misS T (T 1) s y) y (be, le2) = ((y : Int), misS T (T 1) s y) := if_pos (Or.inl q1)
          rw [if_pos q1, this]
          exact ih (y + 1) f _ _ _ (by omega) (by omega) (fun _ => rfl)
        · have hl2 := hl q1
          rw [if_neg q1]
          by_cases q2 : misS T (T 1) s y < le
          · have : bstp (fun y => misS T (T 1) s y) y (be, le2) = ((y : Int), misS T (T 1) s y) := if_pos (Or.inr (by show misS T (T 1) s y < le2; omega))
            rw [if_pos q2, this]
            exact ih (y + 1) f _ _ _ (by omega) (by omega) (fun _ => rfl)
          · have : bstp (fun y => misS T (T 1) s y) y (be, le2) = (be, le2) := if_neg (fun w => w.elim q1 (fun v => by have v2 : misS T (T 1) s y < le2 := v; omega))
            rw [if_neg q2, this]
            exact ih (y + 1) f be le le2 (by omega) (by omega) hl
  unfold D_X9_bestYear
  exact bdk (L 1000 0 mFU (-1) (-1) 0 rfl (by decide) (fun w => absurd rfl w)) rfl
theorem x9_print24 {s : Nat} (hs : s < 12) (hS : ∀ y, y < 1000 → I (1193 + s) y = bI (S y)) : ∀ (d y f : Nat) (v : BitVec 64), y + d = 1000 → d < f → D_X9_print_24 f 1170 v (s : Int) (y : Nat) (st true n c I W p) = some (yf (bgn S) (pstp S) d y v) := by
  intro d
  induction d with
  | zero =>
    intro y f v hy hf
    obtain ⟨f, rfl⟩ : ∃ g, f = g + 1 := ⟨f - 1, by omega⟩
    exact if_pos (by omega)
  | succ d ih =>
    intro y f v hy hf
    obtain ⟨f, rfl⟩ : ∃ g, f = g + 1 := ⟨f - 1, by omega⟩
    show (if (1000 : Int) ≤ (y : Nat) then _ else _) = some (yf (bgn S) (pstp S) d (y + 1) (if bgn S y = true then pstp S y v else v))
    rw [if_neg (by omega)]
    refine bdk z9R14 (bdk (z9A14 (by omega) (by omega)) (bdk z9T (bdk (x9_begins 1170 (rh14 s hs) hS (by omega)) ?_)))
    unfold D_X9_print_75
    rw [mw_n (by omega)]
    cases q : bgn S y
    · rw [if_neg (by decide), if_neg (by decide)]
      exact ih (y + 1) f v (by omega) (by omega)
    · rw [if_pos (by decide), if_pos rfl]
      have sy : S y = true := by unfold bgn at q; rw [Bool.and_eq_true] at q; exact q.1
      refine bdk z9T (bdk (x9_intervalTo hs hS (by omega) sy) ?_)
      have l1 := nx_le (p := fun z => !S z) (i := y) (by omega)
      have e1 : mi2l (y : Nat) = BitVec.ofNat 64 y := mi2l_k ⟨y, by omega⟩
      have e2 : mi2l ((nx (fun z => !S z) y - 1 : Nat) : Int) = BitVec.ofNat 64 (nx (fun z => !S z) y - 1) := mi2l_k ⟨nx (fun z => !S z) y - 1, by omega⟩
      rw [e1, e2]
      exact ih (y + 1) f _ (by omega) (by omega)
theorem x9_printN {SS : Nat → Nat → Bool} (hw : WFn T) (hT : RefT T I) (hS : ∀ s, s < nSa T → ∀ y, y < 1000 → I (1193 + s) y = bI (SS s y)) : D_X9_print_13 mFU 1170 0 0 (st true n c I W p) = some (printS (nSa T) SS) := by
  have hw' := hw
  unfold WFn at hw'
  have L : ∀ (d s f : Nat) (v : BitVec 64), s + d = nSa T → d < f → D_X9_print_13 f 1170 v (s : Nat) (st true n c I W p) = some (prN SS d s v) := by
    intro d
    induction d with
    | zero =>
      intro s f v hs hf
      obtain ⟨f, rfl⟩ : ∃ g, f = g + 1 := ⟨f - 1, by omega⟩
      refine bdk z9I ?_
      rw [hT.2.2.1, if_pos (by unfold nSa at hs; omega)]
      rfl
    | succ d ih =>
      intro s f v hs hf
      obtain ⟨f, rfl⟩ : ∃ g, f = g + 1 := ⟨f - 1, by omega⟩
      have s12 : s < 12 := by unfold nSa at hs; omega
      refine bdk z9I ?_
      rw [hT.2.2.1, if_neg (by unfold nSa at hs; omega)]
      refine bdk (x9_print24 s12 (hS s (by omega)) 1000 0 mFU v rfl (by decide)) ?_
      rw [mw_n (by omega)]
      exact ih (s + 1) f _ (by omega) (by omega)
  exact L (nSa T) 0 mFU 0 (by omega) (by unfold nSa mFU; omega)
theorem x8_print37 {a : Nat} (ha : HC g a = (52, 16)) (h : RowS (W a) S) : ∀ (d k f y : Nat) (v : BitVec 64), k + d = 1000 → d < f → k ≤ y → y ≤ 1000 → (y < 1000 → S y = true ∧ bgn S y = true) → D_X8_print_37 f v a (y : Int) (k : Nat) (st g n c I W p) = some (yf (bgn S) (pstp S) (1000 - y) y v) := by
  intro d
  induction d with
  | zero =>
    intro k f y v hk hf h1 h2 h3
    obtain ⟨f, rfl⟩ : ∃ g, f = g + 1 := ⟨f - 1, by omega⟩
    have e : y = 1000 := by omega
    subst e
    exact if_pos (by omega)
  | succ d ih =>
    intro k f y v hk hf h1 h2 h3
    obtain ⟨f, rfl⟩ : ∃ g, f = g + 1 := ⟨f - 1, by omega⟩
    show (if (1000 : Int) ≤ (k : Nat) then _ else _) = _
    rw [if_neg (by omega)]
    by_cases q : y = 1000
    · subst q
      exact if_pos (by omega)
    · rw [if_neg (by omega)]
      obtain ⟨h4, h5⟩ := h3 (by omega)
      rw [yf_at (by omega) h5]
      have ep : pstp S y v = ((31 : BitVec 64) * (((31 : BitVec 64) * v) + BitVec.ofNat 64 y)) + BitVec.ofNat 64 (nx (fun z => !S z) y - 1) := rfl
      rw [ep]
      obtain ⟨e1, e2, e3, e4⟩ := next_bgn (by omega : y < 1000) h4
      have eo := r_nextOut (n := n) (c := c) (I := I) (p := p) (g := g) ha h y
      rw [if_pos (by omega)] at eo
      generalize nx (fun z => !S z) y = e at *
      have ei := r_nextIn (n := n) (c := c) (I := I) (p := p) (g := g) ha h e
      obtain ⟨t1, t2, t3, t4⟩ := e4
      generalize (if e < 1000 then nx S e else 1000) = y2 at *
      refine bdk eo (bdk ei ?_)
      have m1 : mi2l (y : Nat) = BitVec.ofNat 64 y := mi2l_k ⟨y, by omega⟩
      have m2 : mi2l (e : Nat) = BitVec.ofNat 64 e := mi2l_k ⟨e, by omega⟩
      have m3 : BitVec.ofNat 64 e - 1 = BitVec.ofNat 64 (e - 1) := by
        have := mi2l_p ⟨e - 1, by omega⟩
        rw [show e - 1 + 1 = e by omega] at this
        exact this
      have m4 : ((31 : BitVec 64) * (((31 : BitVec 64) * v) + BitVec.ofNat 64 y)) + BitVec.ofNat 64 e - 1 = ((31 : BitVec 64) * (((31 : BitVec 64) * v) + BitVec.ofNat 64 y)) + BitVec.ofNat 64 (e - 1) := by
        rw [← m3, BitVec.sub_eq_add_neg, BitVec.add_assoc, ← BitVec.sub_eq_add_neg]
      rw [m1, m2, m4, mw_n (by omega), ih (k + 1) f y2 _ (by omega) (by omega) (by omega) t2 t4, yf_to (y := y + 1) (y2 := y2) (by omega) t2 (fun z z1 z2 => t3 z (by omega) z2)]
theorem x8_print {SS : Nat → Nat → Bool} (hw : WFn T) (hT : ClsT 34 T I) (hS : ∀ s, s < nSa T → RowS (W (188 + 15 + s)) (SS s)) : D_X8_print 32 (st g n c I W p) = some (printS (nSa T) SS) := by
  have hw' := hw
  unfold WFn at hw'
  have nb : NB 188 := Or.inl rfl
  have L : ∀ (d s f : Nat) (v : BitVec 64), s + d = nSa T → d < f → D_X8_print_4 f 32 v (s : Nat) (st g n c I W p) = some (prN SS d s v) := by
    intro d
    induction d with
    | zero =>
      intro s f v hs hf
      obtain ⟨f, rfl⟩ : ∃ g, f = g + 1 := ⟨f - 1, by omega⟩
      refine bdk z8R1 (bdk (t5I TB34) ?_)
      rw [hT.1.2.2.2.1, if_pos (by unfold nSa at hs; omega)]
      rfl
    | succ d ih =>
      intro s f v hs hf
      obtain ⟨f, rfl⟩ : ∃ g, f = g + 1 := ⟨f - 1, by omega⟩
      have s12 : s < 12 := by unfold nSa at hs; omega
      have e0 := r_nextIn (n := n) (c := c) (I := I) (p := p) (g := g) (n0H15 nb s12) (hS s (by omega)) 0
      rw [if_pos (by decide)] at e0
      have f0 := first_bgn (S := SS s)
      have l0 := nx_le (p := SS s) (i := 0) (by decide)
      refine bdk z8R1 (bdk (t5I TB34) ?_)
      rw [hT.1.2.2.2.1, if_neg (by unfold nSa at hs; omega)]
      refine bdk z8R9 (bdk (n0R3 nb) (bdk (n0A14 nb (by omega) (by omega)) (bdk e0 (bdk (x8_print37 (n0H15 nb s12) (hS s (by omega)) 1000 0 mFU (nx (SS s) 0) v rfl (by decide) (Nat.zero_le _) l0 f0.2) ?_))))
      have := yf_to (q := bgn (SS s)) (stp := pstp (SS s)) (y := 0) (y2 := nx (SS s) 0) (a := v) (Nat.zero_le _) l0 (fun z _ z2 => f0.1 z z2)
      rw [Nat.sub_zero] at this
      unfold D_X8_print_99
      rw [mw_n (by omega), ← this]
      exact ih (s + 1) f _ (by omega) (by omega)
  unfold D_X8_print
  exact bdk (L (nSa T) 0 mFU 0 (by omega) (by unfold nSa mFU; omega)) rfl
end RI
