/-! THE PURE PART: sums, the earliest and the latest, rows of years told through, on both sides -/
def empN (S : Nat → Nat → Bool) : Nat → Nat
  | 0 => 0
  | k + 1 => empN S k + (if ct (S k) 1000 = 0 then 1 else 0)
theorem empN_le (S : Nat → Nat → Bool) (k : Nat) : empN S k ≤ k := by
  induction k with
  | zero => exact Nat.le_refl _
  | succ k ih => show empN S k + _ ≤ _; split <;> omega
def gonN (G : Nat → Int) : Nat → Int
  | 0 => 0
  | k + 1 => gonN G k + G k
theorem gonN_rng {G : Nat → Int} (h : ∀ r, 0 ≤ G r ∧ G r ≤ 12000) (k : Nat) : 0 ≤ gonN G k ∧ gonN G k ≤ 12000 * k := by
  induction k with
  | zero => exact ⟨Int.le_refl _, by show (0 : Int) ≤ _; omega⟩
  | succ k ih => have := h k; show 0 ≤ gonN G k + G k ∧ gonN G k + G k ≤ _; omega
theorem LoP.uniq {q : Nat → Bool} {n : Nat} {v w : Int} (h : LoP q n v) (h2 : LoP q n w) : v = w := by
  rcases h with ⟨a, rfl⟩ | ⟨y, rfl, b, d, e⟩ <;> rcases h2 with ⟨a2, rfl⟩ | ⟨y2, rfl, b2, d2, e2⟩
  · rfl
  · rw [a y2 b2] at d2; cases d2
  · rw [a2 y b] at d; cases d
  · rcases Nat.lt_trichotomy y y2 with h | h | h
    · rw [e2 y h] at d; cases d
    · rw [h]
    · rw [e y2 h] at d2; cases d2
theorem HiP.uniq {q : Nat → Bool} {n : Nat} {v w : Int} (h : HiP q n v) (h2 : HiP q n w) : v = w := by
  rcases h with ⟨a, rfl⟩ | ⟨y, rfl, b, d, e⟩ <;> rcases h2 with ⟨a2, rfl⟩ | ⟨y2, rfl, b2, d2, e2⟩
  · rfl
  · rw [a y2 b2] at d2; cases d2
  · rw [a2 y b] at d; cases d
  · rcases Nat.lt_trichotomy y y2 with h | h | h
    · rw [e y2 h b2] at d2; cases d2
    · rw [h]
    · rw [e2 y h b] at d; cases d
/-- a row of years told through, those that a predicate names -/
def yf {α : Type} (q : Nat → Bool) (stp : Nat → α → α) : Nat → Nat → α → α
  | 0, _, a => a
  | d + 1, y, a => yf q stp d (y + 1) (if q y = true then stp y a else a)
theorem yf_skip {α : Type} {q : Nat → Bool} {stp : Nat → α → α} (d : Nat) : ∀ (j y : Nat) (a : α), (∀ z, y ≤ z → z < y + j → q z = false) → yf q stp (j + d) y a = yf q stp d (y + j) a := by
  intro j
  induction j with
  | zero => intro y a _; rw [Nat.zero_add]; rfl
  | succ j ih =>
    intro y a h
    rw [show j + 1 + d = (j + d) + 1 by omega]
    show yf q stp (j + d) (y + 1) (if q y = true then stp y a else a) = _
    rw [h y (by omega) (by omega), if_neg (by decide), ih (y + 1) a (fun z z1 z2 => h z (by omega) (by omega)), show y + 1 + j = y + (j + 1) by omega]
theorem yf_to {α : Type} {q : Nat → Bool} {stp : Nat → α → α} {y y2 : Nat} {a : α} (h1 : y ≤ y2) (h2 : y2 ≤ 1000) (h : ∀ z, y ≤ z → z < y2 → q z = false) : yf q stp (1000 - y) y a = yf q stp (1000 - y2) y2 a := by
  have := yf_skip (stp := stp) (1000 - y2) (y2 - y) y a (fun z z1 z2 => h z z1 (by omega))
  rw [show y2 - y + (1000 - y2) = 1000 - y by omega, show y + (y2 - y) = y2 by omega] at this
  exact this
theorem yf_at {α : Type} {q : Nat → Bool} {stp : Nat → α → α} {y : Nat} {a : α} (hy : y < 1000) (h : q y = true) : yf q stp (1000 - y) y a = yf q stp (1000 - (y + 1)) (y + 1) (stp y a) := by
  rw [show 1000 - y = (1000 - (y + 1)) + 1 by omega]
  show yf q stp (1000 - (y + 1)) (y + 1) (if q y = true then stp y a else a) = _
  rw [if_pos h]
theorem yf_cong {α : Type} {q q' : Nat → Bool} {stp stp' : Nat → α → α} : ∀ (d y : Nat) (a : α), (∀ z, y ≤ z → z < y + d → q z = q' z) → (∀ z a, y ≤ z → z < y + d → stp z a = stp' z a) → yf q stp d y a = yf q' stp' d y a := by
  intro d
  induction d with
  | zero => intro y a _ _; rfl
  | succ d ih =>
    intro y a h1 h2
    show yf q stp d (y + 1) (if q y = true then stp y a else a) = yf q' stp' d (y + 1) (if q' y = true then stp' y a else a)
    rw [h1 y (by omega) (by omega), h2 y a (by omega) (by omega)]
    exact ih _ _ (fun z z1 z2 => h1 z (by omega) (by omega)) (fun z a z1 z2 => h2 z a (by omega) (by omega))
def bgn (S : Nat → Bool) (y : Nat) : Bool := S y && (decide (y = 0) || !S (y - 1))
def bstp (mis : Nat → Int) (y : Nat) (a : Int × Int) : Int × Int := if a.1 = -1 ∨ mis y < a.2 then ((y : Int), mis y) else a
/-- from one interval to the next -/
theorem next_bgn {S : Nat → Bool} {y : Nat} (hy : y < 1000) (hS : S y = true) :
    y < nx (fun z => !S z) y ∧ nx (fun z => !S z) y ≤ 1000 ∧ (∀ z, y ≤ z → z < nx (fun z => !S z) y → S z = true) ∧
    (let e := nx (fun z => !S z) y
     let y2 := if e < 1000 then nx S e else 1000
     y < y2 ∧ y2 ≤ 1000 ∧ (∀ z, y < z → z < y2 → bgn S z = false) ∧ (y2 < 1000 → S y2 = true ∧ bgn S y2 = true)) := by
  have e1 := nx_ge (fun z => !S z) y
  have e2 := nx_le (p := fun z => !S z) (i := y) (by omega)
  have e3 : ∀ z, y ≤ z → z < nx (fun z => !S z) y → S z = true := fun z z1 z2 => by
    have := nx_no (p := fun z => !S z) z1 z2
    simpa using this
  have e4 : y < nx (fun z => !S z) y := by
    rcases Nat.lt_or_ge y (nx (fun z => !S z) y) with w | w
    · exact w
    · have a := nx_yes (p := fun z => !S z) (i := y) (by omega)
      rw [show nx (fun z => !S z) y = y by omega] at a
      have a2 : (!S y) = true := a
      rw [hS] at a2
      cases a2
  refine ⟨e4, e2, e3, ?_⟩
  have en : nx (fun z => !S z) y < 1000 → S (nx (fun z => !S z) y) = false := fun w => by
    have a : (!S (nx (fun z => !S z) y)) = true := nx_yes (p := fun z => !S z) (i := y) w
    simpa using a
  generalize nx (fun z => !S z) y = e at *
  show y < (if e < 1000 then nx S e else 1000) ∧ _ ≤ 1000 ∧ _
  have t1 : e ≤ (if e < 1000 then nx S e else 1000) := by
    split
    · exact nx_ge _ _
    · exact e2
  have t2 : (if e < 1000 then nx S e else 1000) ≤ 1000 := by
    split
    · exact nx_le (by omega)
    · omega
  have t3 : ∀ z, e ≤ z → z < (if e < 1000 then nx S e else 1000) → S z = false := fun z z1 z2 => by
    by_cases w : e < 1000
    · rw [if_pos w] at z2; exact nx_no z1 z2
    · rw [if_neg w] at z2; omega
  have t4 : (if e < 1000 then nx S e else 1000) < 1000 → S (if e < 1000 then nx S e else 1000) = true := fun w => by
    by_cases v : e < 1000
    · rw [if_pos v] at w ⊢; exact nx_yes w
    · rw [if_neg v] at w; omega
  generalize (if e < 1000 then nx S e else 1000) = y2 at *
  refine ⟨by omega, t2, fun z z1 z2 => ?_, fun w => ⟨t4 w, ?_⟩⟩
  · unfold bgn
    by_cases v : z < e
    · rw [decide_eq_false (by omega : ¬ z = 0), e3 (z - 1) (by omega) (by omega)]
      simp
    · rw [t3 z (by omega) z2]
      rfl
  · have y2e : e < y2 ∨ y2 = e := by omega
    have ne : e < 1000 := by omega
    rcases y2e with v | v
    · unfold bgn
      rw [t4 w, t3 (y2 - 1) (by omega) (by omega)]
      simp
    · exfalso
      have := t4 w
      rw [v, en ne] at this
      cases this
section LF
variable {g : Bool} {n : Nat} {c : Nat × Nat × Nat × Nat} {I : Nat → Nat → Int} {W : Nat → Nat → BitVec 64} {p : Nat → Nat} {b : Nat} {N : NS} {T : Td}
theorem x0_yearsOfAll (h : NB b) (hw : WFn T) (hN : RNC b T N I W) : D_X0_yearsOfAll b (st g n c I W p) = some ((tot (nSa T) N : Nat) : Int) := by
  have hw' := hw
  unfold WFn at hw'
  have L : ∀ (d s f : Nat), s + d = nSa T → d < f → D_X0_yearsOfAll_4 f b ((totN (nSa T) (nS N) s : Nat) : Int) (s : Nat) (st g n c I W p) = some ((tot (nSa T) N : Nat) : Int) := by
    intro d
    induction d with
    | zero =>
      intro s f hs hf
      obtain ⟨f, rfl⟩ : ∃ g, f = g + 1 := ⟨f - 1, by omega⟩
      have e : s = nSa T := by omega
      subst e
      refine bdk (n0R0 h) (bdk (t5I TB34) ?_)
      rw [hN.1.1.2.2.2.1, if_pos (by unfold nSa; omega)]
      rfl
    | succ d ih =>
      intro s f hs hf
      obtain ⟨f, rfl⟩ : ∃ g, f = g + 1 := ⟨f - 1, by omega⟩
      have b1 := totN_le (nSa T) (nS N) s
      have b2 := ct_le (nS N s) 1000
      have m12 : nSa T ≤ 12 := by unfold nSa; omega
      refine bdk (n0R0 h) (bdk (t5I TB34) ?_)
      rw [hN.1.1.2.2.2.1, if_neg (by unfold nSa at hs; omega)]
      refine bdk (n0R4 h) (bdk (n0L27 h (by omega) (by omega)) ?_)
      rw [toN, (hN.2.1.2.1 s (by omega)).1, mw_n (by omega), mw_of (by omega) (by omega)]
      exact ih (s + 1) f (by omega) (by omega)
  unfold D_X0_yearsOfAll
  exact bdk (L (nSa T) 0 mFU (by omega) (by unfold nSa mFU; omega)) rfl
theorem x0_emptySpans (h : NB b) (hw : WFn T) (hN : RNC b T N I W) : D_X0_emptySpans b (st g n c I W p) = some ((empN (nS N) (nSa T) : Nat) : Int) := by
  have hw' := hw
  unfold WFn at hw'
  have m12 : nSa T ≤ 12 := by unfold nSa; omega
  have L : ∀ (d s f : Nat), s + d = nSa T → d < f → D_X0_emptySpans_4 f b ((empN (nS N) s : Nat) : Int) (s : Nat) (st g n c I W p) = some ((empN (nS N) (nSa T) : Nat) : Int) := by
    intro d
    induction d with
    | zero =>
      intro s f hs hf
      obtain ⟨f, rfl⟩ : ∃ g, f = g + 1 := ⟨f - 1, by omega⟩
      have e : s = nSa T := by omega
      subst e
      refine bdk (n0R0 h) (bdk (t5I TB34) ?_)
      rw [hN.1.1.2.2.2.1, if_pos (by unfold nSa; omega)]
    | succ d ih =>
      intro s f hs hf
      obtain ⟨f, rfl⟩ : ∃ g, f = g + 1 := ⟨f - 1, by omega⟩
      have b1 := empN_le (nS N) s
      have nxt := ih (s + 1) f (by omega) (by omega)
      have e : empN (nS N) (s + 1) = empN (nS N) s + (if ct (nS N s) 1000 = 0 then 1 else 0) := rfl
      rw [e] at nxt
      refine bdk (n0R0 h) (bdk (t5I TB34) ?_)
      rw [hN.1.1.2.2.2.1, if_neg (by unfold nSa at hs; omega)]
      refine bdk (n0R4 h) (bdk (n0L27 h (by omega) (by omega)) ?_)
      rw [toN, (hN.2.1.2.1 s (by omega)).1]
      unfold D_X0_emptySpans_30
      rw [mw_n (by omega)]
      by_cases q : ct (nS N s) 1000 = 0
      · rw [if_pos q] at nxt
        rw [if_neg (by omega), mw_of (by omega) (by omega)]
        exact nxt
      · rw [if_neg q] at nxt
        rw [if_pos (by omega), mw_of (by omega) (by omega)]
        exact nxt
  unfold D_X0_emptySpans
  exact bdk (L (nSa T) 0 mFU (by omega) (by unfold mFU; omega)) rfl
theorem x0_goneOfAll (h : NB b) (hw : WFn T) (hN : RNC b T N I W) : D_X0_goneOfAll b (st g n c I W p) = some (gonN (nG N) (nRu T)) := by
  have hw' := hw
  unfold WFn at hw'
  have m24 : nRu T ≤ 24 := by unfold nRu; omega
  have gr : ∀ r, 0 ≤ nG N r ∧ nG N r ≤ 12000 := fun r => by have := hN.2.2.1 r; omega
  have L : ∀ (d s f : Nat), s + d = nRu T → d < f → D_X0_goneOfAll_4 f b (gonN (nG N) s) (s : Nat) (st g n c I W p) = some (gonN (nG N) (nRu T)) := by
    intro d
    induction d with
    | zero =>
      intro s f hs hf
      obtain ⟨f, rfl⟩ : ∃ g, f = g + 1 := ⟨f - 1, by omega⟩
      have e : s = nRu T := by omega
      subst e
      refine bdk (n0R0 h) (bdk (t5I TB34) ?_)
      rw [hN.1.1.2.2.2.2.2, if_pos (by unfold nRu; omega)]
    | succ d ih =>
      intro s f hs hf
      obtain ⟨f, rfl⟩ : ∃ g, f = g + 1 := ⟨f - 1, by omega⟩
      have b1 := gonN_rng gr s
      have b2 := gr s
      refine bdk (n0R0 h) (bdk (t5I TB34) ?_)
      rw [hN.1.1.2.2.2.2.2, if_neg (by unfold nRu at hs; omega)]
      refine bdk (n0R7 h) (bdk (n0L30 h (by omega) (by omega)) ?_)
      rw [toN, hN.2.1.2.2.1 s (by omega), mw_n (by omega), mw_of (by omega) (by omega)]
      exact ih (s + 1) f (by omega) (by omega)
  unfold D_X0_goneOfAll
  exact bdk (L (nRu T) 0 mFU (by omega) (by unfold mFU; omega)) rfl
/-! the reference's -/
theorem x9_yearsAll (hw : WFn T) (hN : RNI T N I) : D_X9_yearsAll 1170 (st true n c I W p) = some ((tot (nSa T) N : Nat) : Int) := by
  have hw' := hw
  unfold WFn at hw'
  have m12 : nSa T ≤ 12 := by unfold nSa; omega
  have L : ∀ (d s f : Nat), s + d = nSa T → d < f → D_X9_yearsAll_4 f 1170 ((totN (nSa T) (nS N) s : Nat) : Int) (s : Nat) (st true n c I W p) = some ((tot (nSa T) N : Nat) : Int) := by
    intro d
    induction d with
    | zero =>
      intro s f hs hf
      obtain ⟨f, rfl⟩ : ∃ g, f = g + 1 := ⟨f - 1, by omega⟩
      have e : s = nSa T := by omega
      subst e
      refine bdk z9I ?_
      rw [hN.1.2.2.1, if_pos (by unfold nSa; omega)]
      rfl
    | succ d ih =>
      intro s f hs hf
      obtain ⟨f, rfl⟩ : ∃ g, f = g + 1 := ⟨f - 1, by omega⟩
      have b1 := totN_le (nSa T) (nS N) s
      have b2 := ct_le (nS N s) 1000
      refine bdk z9I ?_
      rw [hN.1.2.2.1, if_neg (by unfold nSa at hs; omega)]
      refine bdk z9R14 (bdk (z9A14 (by omega) (by omega)) (bdk z9T (bdk (x9_size (S := nS N s) 1170 (rh14 s (by omega)) (hN.2.1.1 s (by omega))) ?_)))
      rw [mw_n (by omega), mw_of (by omega) (by omega)]
      exact ih (s + 1) f (by omega) (by omega)
  unfold D_X9_yearsAll
  exact bdk (L (nSa T) 0 mFU (by omega) (by unfold mFU; omega)) rfl
theorem x9_empties (hw : WFn T) (hN : RNI T N I) : D_X9_empties 1170 (st true n c I W p) = some ((empN (nS N) (nSa T) : Nat) : Int) := by
  have hw' := hw
  unfold WFn at hw'
  have m12 : nSa T ≤ 12 := by unfold nSa; omega
  have L : ∀ (d s f : Nat), s + d = nSa T → d < f → D_X9_empties_4 f 1170 ((empN (nS N) s : Nat) : Int) (s : Nat) (st true n c I W p) = some ((empN (nS N) (nSa T) : Nat) : Int) := by
    intro d
    induction d with
    | zero =>
      intro s f hs hf
      obtain ⟨f, rfl⟩ : ∃ g, f = g + 1 := ⟨f - 1, by omega⟩
      have e : s = nSa T := by omega
      subst e
      refine bdk z9I ?_
      rw [hN.1.2.2.1, if_pos (by unfold nSa; omega)]
    | succ d ih =>
      intro s f hs hf
      obtain ⟨f, rfl⟩ : ∃ g, f = g + 1 := ⟨f - 1, by omega⟩
      have b1 := empN_le (nS N) s
      have nxt := ih (s + 1) f (by omega) (by omega)
      have e : empN (nS N) (s + 1) = empN (nS N) s + (if ct (nS N s) 1000 = 0 then 1 else 0) := rfl
      rw [e] at nxt
      refine bdk z9I ?_
      rw [hN.1.2.2.1, if_neg (by unfold nSa at hs; omega)]
      refine bdk z9R14 (bdk (z9A14 (by omega) (by omega)) (bdk z9T (bdk (x9_size (S := nS N s) 1170 (rh14 s (by omega)) (hN.2.1.1 s (by omega))) ?_)))
      unfold D_X9_empties_31
      rw [mw_n (by omega)]
      by_cases q : ct (nS N s) 1000 = 0
      · rw [if_pos q] at nxt
        rw [if_neg (by omega), mw_of (by omega) (by omega)]
        exact nxt
      · rw [if_neg q] at nxt
        rw [if_pos (by omega), mw_of (by omega) (by omega)]
        exact nxt
  unfold D_X9_empties
  exact bdk (L (nSa T) 0 mFU (by omega) (by unfold mFU; omega)) rfl
theorem x9_goneAll (hw : WFn T) (hN : RNI T N I) : D_X9_goneAll 1170 (st true n c I W p) = some (gonN (nG N) (nRu T)) := by
  have hw' := hw
  unfold WFn at hw'
  have m24 : nRu T ≤ 24 := by unfold nRu; omega
  have gr : ∀ r, 0 ≤ nG N r ∧ nG N r ≤ 12000 := fun r => by have := hN.2.2.1 r; omega
  have L : ∀ (d s f : Nat), s + d = nRu T → d < f → D_X9_goneAll_4 f 1170 (gonN (nG N) s) (s : Nat) (st true n c I W p) = some (gonN (nG N) (nRu T)) := by
    intro d
    induction d with
    | zero =>
      intro s f hs hf
      obtain ⟨f, rfl⟩ : ∃ g, f = g + 1 := ⟨f - 1, by omega⟩
      have e : s = nRu T := by omega
      subst e
      refine bdk z9R2 (bdk (z9L2 (by omega) (by omega)) ?_)
      rw [show I 1172 (2 : Int).toNat = T 2 from hN.1.1 2 (by decide), if_pos (by unfold nRu; omega)]
    | succ d ih =>
      intro s f hs hf
      obtain ⟨f, rfl⟩ : ∃ g, f = g + 1 := ⟨f - 1, by omega⟩
      have b1 := gonN_rng gr s
      have b2 := gr s
      refine bdk z9R2 (bdk (z9L2 (by omega) (by omega)) ?_)
      rw [show I 1172 (2 : Int).toNat = T 2 from hN.1.1 2 (by decide), if_neg (by unfold nRu at hs; omega)]
      refine bdk z9R25 (bdk (z9L25 (by omega) (by omega)) ?_)
      rw [toN, hN.2.1.2.1 s (by omega), mw_n (by omega), mw_of (by omega) (by omega)]
      exact ih (s + 1) f (by omega) (by omega)
  unfold D_X9_goneAll
  exact bdk (L (nRu T) 0 mFU (by omega) (by unfold mFU; omega)) rfl
theorem x9_earliest {s : Nat} {S : Nat → Bool} (hs : s < 12) (hS : ∀ y, y < 1000 → I (1193 + s) y = bI (S y)) : ∃ v, D_X9_earliest 1170 (s : Int) (st true n c I W p) = some v ∧ LoP S 1000 v := by
  have L : ∀ (d y f : Nat), y + d = 1000 → d < f → (∀ z, z < y → S z = false) → ∃ r : Unit ⊕ Int, D_X9_earliest_2 f 1170 (s : Int) (y : Nat) (st true n c I W p) = some r ∧ LoP S 1000 (r.elim (fun _ => -1) id) := by
    intro d
    induction d with
    | zero =>
      intro y f hy hf hz
      obtain ⟨f, rfl⟩ : ∃ g, f = g + 1 := ⟨f - 1, by omega⟩
      exact ⟨Sum.inl (), if_pos (by omega), Or.inl ⟨fun z hz2 => hz z (by omega), rfl⟩⟩
    | succ d ih =>
      intro y f hy hf hz
      obtain ⟨f, rfl⟩ : ∃ g, f = g + 1 := ⟨f - 1, by omega⟩
      have head : ∀ {R : Option (Unit ⊕ Int)}, (if bI (S y) = 0 then D_X9_earliest_2 f 1170 (s : Int) ((y + 1 : Nat) : Int) (st true n c I W p) else some (Sum.inr (y : Int))) = R → D_X9_earliest_2 (f + 1) 1170 (s : Int) (y : Nat) (st true n c I W p) = R := by
        intro R hh
        show (if (1000 : Int) ≤ (y : Nat) then _ else _) = _
        rw [if_neg (by omega)]
        refine bdk z9R14 (bdk (z9A14 (by omega) (by omega)) (bdk (z9L14 hs (by omega) (by omega)) ?_))
        rw [toN, toN, hS y (by omega), mw_n (by omega)]
        exact hh
      cases q : S y
      · obtain ⟨r, e, h1⟩ := ih (y + 1) f (by omega) (by omega) (fun z hz2 => by
          by_cases w : z = y
          · subst w; exact q
          · exact hz z (by omega))
        refine ⟨r, head ?_, h1⟩
        rw [q]
        exact e
      · refine ⟨Sum.inr (y : Int), head ?_, Or.inr ⟨y, rfl, by omega, q, hz⟩⟩
        rw [q]
        rfl
  obtain ⟨r, e, h1⟩ := L 1000 0 mFU rfl (by decide) (fun z hz => by omega)
  refine ⟨r.elim (fun _ => -1) id, bdk e ?_, h1⟩
  cases r <;> rfl
theorem x9_latest {s : Nat} {S : Nat → Bool} (hs : s < 12) (hS : ∀ y, y < 1000 → I (1193 + s) y = bI (S y)) : ∃ v, D_X9_latest 1170 (s : Int) (st true n c I W p) = some v ∧ HiP S 1000 v := by
  have L : ∀ (d f : Nat), d ≤ 1000 → d < f → (∀ z, d ≤ z → z < 1000 → S z = false) → ∃ r : Unit ⊕ Int, D_X9_latest_4 f 1170 (s : Int) ((d : Int) - 1) (st true n c I W p) = some r ∧ HiP S 1000 (r.elim (fun _ => -1) id) := by
    intro d
    induction d with
    | zero =>
      intro f hd hf hz
      obtain ⟨f, rfl⟩ : ∃ g, f = g + 1 := ⟨f - 1, by omega⟩
      exact ⟨Sum.inl (), if_pos (by omega), Or.inl ⟨fun z hz2 => hz z (by omega) hz2, rfl⟩⟩
    | succ d ih =>
      intro f hd hf hz
      obtain ⟨f, rfl⟩ : ∃ g, f = g + 1 := ⟨f - 1, by omega⟩
      have head : ∀ {R : Option (Unit ⊕ Int)}, (if bI (S d) = 0 then D_X9_latest_4 f 1170 (s : Int) ((d : Int) - 1) (st true n c I W p) else some (Sum.inr (d : Int))) = R → D_X9_latest_4 (f + 1) 1170 (s : Int) (((d + 1 : Nat) : Int) - 1) (st true n c I W p) = R := by
        intro R hh
        rw [show ((d + 1 : Nat) : Int) - 1 = (d : Int) by omega]
        show (if (d : Int) < 0 then _ else _) = _
        rw [if_neg (by omega)]
        refine bdk z9R14 (bdk (z9A14 (by omega) (by omega)) (bdk (z9L14 hs (by omega) (by omega)) ?_))
        rw [toN, toN, hS d (by omega), mw_of (by omega) (by omega), show (d : Int) + -1 = (d : Int) - 1 by omega]
        exact hh
      cases q : S d
      · obtain ⟨r, e, h1⟩ := ih f (by omega) (by omega) (fun z z1 z2 => by
          by_cases w : z = d
          · subst w; exact q
          · exact hz z (by omega) z2)
        refine ⟨r, head ?_, h1⟩
        rw [q]
        exact e
      · refine ⟨Sum.inr (d : Int), head ?_, Or.inr ⟨d, rfl, by omega, q, fun z z1 z2 => hz z (by omega) z2⟩⟩
        rw [q]
        rfl
  obtain ⟨r, e, h1⟩ := L 1000 mFU (by decide) (by decide) (fun z z1 z2 => by omega)
  refine ⟨r.elim (fun _ => -1) id, bdk e ?_, h1⟩
  cases r <;> rfl
end LF
