/-! THE PURE PART: first spans taken, pinned, opened; spans held against spans -/
section SU
variable {g : Bool} {n : Nat} {c : Nat × Nat × Nat × Nat} {I : Nat → Nat → Int} {W : Nat → Nat → BitVec 64} {p : Nat → Nat} {b : Nat} {N : NS} {T : Td}
theorem nb221 : NB 221 := Or.inr rfl
theorem nb188 : NB 188 := Or.inl rfl
theorem wb_row {f f' : Nat → BitVec 64} (h : ∀ k, k < 16 → f k = f' k) {y : Nat} (hy : y < 1024) : wb f y = wb f' y := by
  unfold wb
  rw [h (y / 64) (by omega)]
theorem x0_takeFirst {F : Nat → Nat → Bool} (hw : WFn T) (hT : ClsT 34 T I) (hF : FirstC 188 (nSa T) F W) : ∃ W', D_X0_takeFirst 221 188 (st g n c I W p) = some (st g n c I W' p) ∧ FirstC 221 (nSa T) F W' ∧ ∀ x, ¬ (223 ≤ x ∧ x < 223 + nSa T) → W' x = W x := by
  have hw' := hw
  unfold WFn at hw'
  have L : ∀ (d s f : Nat) (W1 : Nat → Nat → BitVec 64), s + d = nSa T → d < f → (∀ x, ¬ (223 ≤ x ∧ x < 223 + nSa T) → W1 x = W x) → FirstC 221 s F W1 →
      ∃ W', D_X0_takeFirst_2 f 221 188 (s : Nat) (st g n c I W1 p) = some (st g n c I W' p) ∧ FirstC 221 (nSa T) F W' ∧ ∀ x, ¬ (223 ≤ x ∧ x < 223 + nSa T) → W' x = W x := by
    intro d
    induction d with
    | zero =>
      intro s f W1 hs hf h1 h2
      obtain ⟨f, rfl⟩ : ∃ g, f = g + 1 := ⟨f - 1, by omega⟩
      have e : s = nSa T := by omega
      subst e
      refine ⟨W1, bdk (n0R0 nb221) (bdk (t5I TB34) ?_), h2, h1⟩
      rw [hT.1.2.2.2.1, if_pos (by unfold nSa; omega)]
    | succ d ih =>
      intro s f W1 hs hf h1 h2
      obtain ⟨f, rfl⟩ : ∃ g, f = g + 1 := ⟨f - 1, by omega⟩
      have s12 : s < 12 := by unfold nSa at hs; omega
      generalize hW2 : (fun r j => if r = 221 + 2 + s ∧ j < (16 : Int).toNat then W1 (188 + 2 + s) j else W1 r j) = W2
      have w2 : ∀ x, x ≠ 221 + 2 + s → W2 x = W1 x := fun x hx => by rw [← hW2]; funext j; exact if_neg (fun q => hx q.1)
      have w3 : ∀ k, k < 16 → W2 (221 + 2 + s) k = W1 (188 + 2 + s) k := fun k hk => by rw [← hW2]; exact if_pos ⟨rfl, hk⟩
      obtain ⟨W', e, g1, g2⟩ := ih (s + 1) f W2 (by omega) (by omega) (fun x hx => by rw [w2 x (by omega)]; exact h1 x hx) (fun t ht y hy => by
        by_cases q : t = s
        · subst q
          rw [wb_row w3 hy, h1 _ (by omega)]
          exact hF t (by omega) y hy
        · rw [w2 _ (by omega)]
          exact h2 t (by omega) y hy)
      refine ⟨W', bdk (n0R0 nb221) (bdk (t5I TB34) ?_), g1, g2⟩
      rw [hT.1.2.2.2.1, if_neg (by unfold nSa at hs; omega)]
      refine bdk (n0R2 nb188) (bdk (n0A1 nb188 (by omega) (by omega)) (bdk (n0R2 nb221) (bdk (n0A1 nb221 (by omega) (by omega)) (bdk (s_cpL (n0H2 nb188 s12) (n0H2 nb221 s12) (by decide) (by decide) (by decide)) ?_))))
      show D_X0_takeFirst_2 f 221 188 (mw ((s : Int) + 1)) (st g n c I (fun r j => if r = 221 + 2 + s ∧ j < (16 : Int).toNat then W1 (188 + 2 + s) j else W1 r j) p) = _
      rw [hW2, mw_n (by omega)]
      exact e
  obtain ⟨W', e, r⟩ := L (nSa T) 0 mFU W (by omega) (by unfold nSa mFU; omega) (fun _ _ => rfl) (fun t ht => by omega)
  exact ⟨W', bdk e rfl, r⟩
theorem x0_takeSpans {F : Nat → Nat → Bool} (hw : WFn T) (hT : ClsT 34 T I) (hF : ∀ s, s < nSa T → ∀ y, y < 1024 → wb (W (188 + 15 + s)) y = (decide (y < 1000) && F s y)) : ∃ W', D_X0_takeSpans 221 188 (st g n c I W p) = some (st g n c I W' p) ∧ FirstC 221 (nSa T) F W' ∧ ∀ x, ¬ (223 ≤ x ∧ x < 223 + nSa T) → W' x = W x := by
  have hw' := hw
  unfold WFn at hw'
  have L : ∀ (d s f : Nat) (W1 : Nat → Nat → BitVec 64), s + d = nSa T → d < f → (∀ x, ¬ (223 ≤ x ∧ x < 223 + nSa T) → W1 x = W x) → FirstC 221 s F W1 →
      ∃ W', D_X0_takeSpans_2 f 221 188 (s : Nat) (st g n c I W1 p) = some (st g n c I W' p) ∧ FirstC 221 (nSa T) F W' ∧ ∀ x, ¬ (223 ≤ x ∧ x < 223 + nSa T) → W' x = W x := by
    intro d
    induction d with
    | zero =>
      intro s f W1 hs hf h1 h2
      obtain ⟨f, rfl⟩ : ∃ g, f = g + 1 := ⟨f - 1, by omega⟩
      have e : s = nSa T := by omega
      subst e
      refine ⟨W1, bdk (n0R0 nb221) (bdk (t5I TB34) ?_), h2, h1⟩
      rw [hT.1.2.2.2.1, if_pos (by unfold nSa; omega)]
    | succ d ih =>
      intro s f W1 hs hf h1 h2
      obtain ⟨f, rfl⟩ : ∃ g, f = g + 1 := ⟨f - 1, by omega⟩
      have s12 : s < 12 := by unfold nSa at hs; omega
      generalize hW2 : (fun r j => if r = 221 + 2 + s ∧ j < (16 : Int).toNat then W1 (188 + 15 + s) j else W1 r j) = W2
      have w2 : ∀ x, x ≠ 221 + 2 + s → W2 x = W1 x := fun x hx => by rw [← hW2]; funext j; exact if_neg (fun q => hx q.1)
      have w3 : ∀ k, k < 16 → W2 (221 + 2 + s) k = W1 (188 + 15 + s) k := fun k hk => by rw [← hW2]; exact if_pos ⟨rfl, hk⟩
      obtain ⟨W', e, g1, g2⟩ := ih (s + 1) f W2 (by omega) (by omega) (fun x hx => by rw [w2 x (by omega)]; exact h1 x hx) (fun t ht y hy => by
        by_cases q : t = s
        · subst q
          rw [wb_row w3 hy, h1 _ (by omega)]
          exact hF t (by omega) y hy
        · rw [w2 _ (by omega)]
          exact h2 t (by omega) y hy)
      refine ⟨W', bdk (n0R0 nb221) (bdk (t5I TB34) ?_), g1, g2⟩
      rw [hT.1.2.2.2.1, if_neg (by unfold nSa at hs; omega)]
      refine bdk (n0R3 nb188) (bdk (n0A14 nb188 (by omega) (by omega)) (bdk (n0R2 nb221) (bdk (n0A1 nb221 (by omega) (by omega)) (bdk (s_cpL (n0H15 nb188 s12) (n0H2 nb221 s12) (by decide) (by decide) (by decide)) ?_))))
      show D_X0_takeSpans_2 f 221 188 (mw ((s : Int) + 1)) (st g n c I (fun r j => if r = 221 + 2 + s ∧ j < (16 : Int).toNat then W1 (188 + 15 + s) j else W1 r j) p) = _
      rw [hW2, mw_n (by omega)]
      exact e
  obtain ⟨W', e, r⟩ := L (nSa T) 0 mFU W (by omega) (by unfold nSa mFU; omega) (fun _ _ => rfl) (fun t ht => by omega)
  exact ⟨W', bdk e rfl, r⟩
theorem x0_pin {s y : Nat} (hs : s < 12) (hy : y < 1000) : ∃ W', D_X0_pin 221 (s : Int) (y : Int) (st g n c I W p) = some (st g n c I W' p) ∧ (∀ z, z < 1024 → wb (W' (221 + 2 + s)) z = decide (z = y)) ∧ ∀ x, x ≠ 221 + 2 + s → W' x = W x := by
  obtain ⟨W2, e, f1, f2⟩ := put_k (n := n) (c := c) (I := I) (W := fun b' k => if b' = 221 + 2 + s ∧ k < 16 then (0 : BitVec 64) else W b' k) (p := p) (g := g) (n0H2 nb221 hs) hy
  refine ⟨W2, ?_, fun z hz => ?_, fun x hx => ?_⟩
  · unfold D_X0_pin
    exact bdk (n0R2 nb221) (bdk (n0A1 nb221 (by omega) (by omega)) (bdk (clear_k (n0H2 nb221 hs)) (bdk (n0R2 nb221) (bdk (n0A1 nb221 (by omega) (by omega)) (bdk e rfl)))))
  · rw [f2, clear_wb z hz, Bool.false_or]
  · rw [f1 x hx]
    funext k
    exact if_neg (fun q => hx q.1)
theorem x0_openAll (hw : WFn T) (hT : ClsT 34 T I) (hc : ∀ s, s < 12 → ∀ y, 1000 ≤ y → y < 1024 → wb (W (221 + 2 + s)) y = false) : ∃ W', D_X0_openAll 221 (st g n c I W p) = some (st g n c I W' p) ∧ FirstC 221 (nSa T) (fun _ _ => true) W' ∧ ∀ x, ¬ (223 ≤ x ∧ x < 223 + nSa T) → W' x = W x := by
  have hw' := hw
  unfold WFn at hw'
  have L : ∀ (d s f : Nat) (W1 : Nat → Nat → BitVec 64), s + d = nSa T → d < f → (∀ x, ¬ (223 ≤ x ∧ x < 223 + nSa T) → W1 x = W x) → (∀ t, s ≤ t → W1 (221 + 2 + t) = W (221 + 2 + t)) → FirstC 221 s (fun _ _ => true) W1 →
      ∃ W', D_X0_openAll_2 f 221 (s : Nat) (st g n c I W1 p) = some (st g n c I W' p) ∧ FirstC 221 (nSa T) (fun _ _ => true) W' ∧ ∀ x, ¬ (223 ≤ x ∧ x < 223 + nSa T) → W' x = W x := by
    intro d
    induction d with
    | zero =>
      intro s f W1 hs hf h1 h3 h2
      obtain ⟨f, rfl⟩ : ∃ g, f = g + 1 := ⟨f - 1, by omega⟩
      have e : s = nSa T := by omega
      subst e
      refine ⟨W1, bdk (n0R0 nb221) (bdk (t5I TB34) ?_), h2, h1⟩
      rw [hT.1.2.2.2.1, if_pos (by unfold nSa; omega)]
    | succ d ih =>
      intro s f W1 hs hf h1 h3 h2
      obtain ⟨f, rfl⟩ : ∃ g, f = g + 1 := ⟨f - 1, by omega⟩
      have s12 : s < 12 := by unfold nSa at hs; omega
      obtain ⟨W2, e2, f1, f2⟩ := putAll_k (n := n) (c := c) (I := I) (W := W1) (p := p) (g := g) (x := 0) (y := 999) (n0H2 nb221 s12) ⟨by decide, by decide⟩ ⟨by decide, by decide⟩
      obtain ⟨W', e, g1, g2⟩ := ih (s + 1) f W2 (by omega) (by omega) (fun x hx => by rw [f1 x (by omega)]; exact h1 x hx) (fun t ht => by rw [f1 _ (by omega)]; exact h3 t (by omega)) (fun t ht y hy => by
        by_cases q : t = s
        · subst q
          rw [f2, h3 t (Nat.le_refl _), Bool.and_true]
          by_cases v : y < 1000
          · rw [decide_eq_true (⟨by omega, by omega, v⟩ : (0 : Int) ≤ (y : Int) ∧ (y : Int) ≤ 999 ∧ y < 1000), Bool.or_true, decide_eq_true v]
          · rw [hc t s12 y (by omega) hy, decide_eq_false v, decide_eq_false (fun w => v w.2.2)]
            rfl
        · rw [f1 _ (by omega)]
          exact h2 t (by omega) y hy)
      refine ⟨W', bdk (n0R0 nb221) (bdk (t5I TB34) ?_), g1, g2⟩
      rw [hT.1.2.2.2.1, if_neg (by unfold nSa at hs; omega)]
      refine bdk (n0R2 nb221) (bdk (n0A1 nb221 (by omega) (by omega)) (bdk e2 ?_))
      rw [mw_n (by omega)]
      exact e
  obtain ⟨W', e, r⟩ := L (nSa T) 0 mFU W (by omega) (by unfold nSa mFU; omega) (fun _ _ => rfl) (fun _ _ => rfl) (fun t ht => by omega)
  exact ⟨W', bdk e rfl, r⟩
/-- spans alike -/
def SameS (m : Nat) (S S' : Nat → Nat → Bool) : Prop := ∀ s, s < m → ∀ y, y < 1000 → S s y = S' s y
theorem words_eq {f f' : Nat → BitVec 64} : (∀ k, k < 16 → f k = f' k) ↔ ∀ y, y < 1024 → wb f y = wb f' y := by
  constructor
  · intro h y hy; exact wb_row h hy
  · intro h k hk
    apply BitVec.eq_of_getLsbD_eq
    intro j hj
    have := h (64 * k + j) (by omega)
    unfold wb at this
    rw [show (64 * k + j) / 64 = k by omega, show (64 * k + j) % 64 = j by omega] at this
    exact this
theorem x0_same15 {s : Nat} (hs : s < 12) : ∀ (d w f : Nat), w + d = 16 → d < f → (∀ k, k < w → W (221 + 15 + s) k = W (188 + 15 + s) k) →
    ((∀ k, k < 16 → W (221 + 15 + s) k = W (188 + 15 + s) k) ∧ D_X0_sameSpans_15 f 221 188 (s : Int) (w : Nat) (st g n c I W p) = some (Sum.inl ())) ∨ ((¬ ∀ k, k < 16 → W (221 + 15 + s) k = W (188 + 15 + s) k) ∧ D_X0_sameSpans_15 f 221 188 (s : Int) (w : Nat) (st g n c I W p) = some (Sum.inr 0)) := by
  intro d
  induction d with
  | zero =>
    intro w f hw hf h
    obtain ⟨f, rfl⟩ : ∃ g, f = g + 1 := ⟨f - 1, by omega⟩
    exact Or.inl ⟨fun k hk => h k (by omega), if_pos (by omega)⟩
  | succ d ih =>
    intro w f hw hf h
    obtain ⟨f, rfl⟩ : ∃ g, f = g + 1 := ⟨f - 1, by omega⟩
    have head : ∀ {R : Option (Unit ⊕ Int)}, (if mlcmp (W (221 + 15 + s) w) (W (188 + 15 + s) w) = 0 then D_X0_sameSpans_15 f 221 188 (s : Int) ((w + 1 : Nat) : Int) (st g n c I W p) else some (Sum.inr 0)) = R → D_X0_sameSpans_15 (f + 1) 221 188 (s : Int) (w : Nat) (st g n c I W p) = R := by
      intro R hh
      show (if (16 : Int) ≤ (w : Nat) then _ else _) = _
      rw [if_neg (by omega)]
      refine bdk (n0R3 nb221) (bdk (n0A14 nb221 (by omega) (by omega)) (bdk (s_lL (n0H15 nb221 hs) (by omega) (by omega)) (bdk (n0R3 nb188) (bdk (n0A14 nb188 (by omega) (by omega)) (bdk (s_lL (n0H15 nb188 hs) (by omega) (by omega)) ?_)))))
      rw [toN, toN, mw_n (by omega)]
      exact hh
    by_cases q : W (221 + 15 + s) w = W (188 + 15 + s) w
    · rcases ih (w + 1) f (by omega) (by omega) (fun k hk => by
        by_cases v : k = w
        · rw [v]; exact q
        · exact h k (by omega)) with ⟨a, e⟩ | ⟨a, e⟩
      · exact Or.inl ⟨a, head (by rw [if_pos (mlcmp_0.2 q)]; exact e)⟩
      · exact Or.inr ⟨a, head (by rw [if_pos (mlcmp_0.2 q)]; exact e)⟩
    · exact Or.inr ⟨fun a => q (a w (by omega)), head (by rw [if_neg (fun v => q (mlcmp_0.1 v))])⟩
theorem x0_sameSpans {S S' : Nat → Nat → Bool} (hw : WFn T) (hT : ClsT 34 T I) (h1 : ∀ s, s < nSa T → RowS (W (221 + 15 + s)) (S s)) (h2 : ∀ s, s < nSa T → RowS (W (188 + 15 + s)) (S' s)) : ∃ v, D_X0_sameSpans 221 188 (st g n c I W p) = some v ∧ ((v = 1 ∧ SameS (nSa T) S S') ∨ (v = 0 ∧ ¬ SameS (nSa T) S S')) := by
  have hw' := hw
  unfold WFn at hw'
  have rows : ∀ s, s < nSa T → ((∀ k, k < 16 → W (221 + 15 + s) k = W (188 + 15 + s) k) ↔ ∀ y, y < 1000 → S s y = S' s y) := fun s hs => by
    rw [words_eq]
    constructor
    · intro h y hy
      have := h y (by omega)
      rw [(h1 s hs).at hy, (h2 s hs).at hy] at this
      exact this
    · intro h y hy
      rw [h1 s hs y hy, h2 s hs y hy]
      by_cases q : y < 1000
      · rw [h y q]
      · rw [decide_eq_false q, Bool.false_and, Bool.false_and]
  have L : ∀ (d s f : Nat), s + d = nSa T → d < f → (∀ t, t < s → ∀ y, y < 1000 → S t y = S' t y) →
      (SameS (nSa T) S S' ∧ D_X0_sameSpans_2 f 221 188 (s : Nat) (st g n c I W p) = some (Sum.inl ())) ∨ (¬ SameS (nSa T) S S' ∧ D_X0_sameSpans_2 f 221 188 (s : Nat) (st g n c I W p) = some (Sum.inr 0)) := by
    intro d
    induction d with
    | zero =>
      intro s f hs hf h
      obtain ⟨f, rfl⟩ : ∃ g, f = g + 1 := ⟨f - 1, by omega⟩
      refine Or.inl ⟨fun t ht => h t (by omega), bdk (n0R0 nb221) (bdk (t5I TB34) ?_)⟩
      rw [hT.1.2.2.2.1, if_pos (by unfold nSa at hs; omega)]
    | succ d ih =>
      intro s f hs hf h
      obtain ⟨f, rfl⟩ : ∃ g, f = g + 1 := ⟨f - 1, by omega⟩
      have s12 : s < 12 := by unfold nSa at hs; omega
      have head : ∀ {R : Option (Unit ⊕ Int)}, ((D_X0_sameSpans_15 mFU 221 188 (s : Int) 0 (st g n c I W p)).bind fun r3 => match r3 with | Sum.inl z4 => D_X0_sameSpans_2 f 221 188 (mw ((s : Int) + 1)) (st g n c I W p) | Sum.inr z5 => some (Sum.inr z5)) = R → D_X0_sameSpans_2 (f + 1) 221 188 (s : Nat) (st g n c I W p) = R := by
        intro R hh
        refine bdk (n0R0 nb221) (bdk (t5I TB34) ?_)
        rw [hT.1.2.2.2.1, if_neg (by unfold nSa at hs; omega)]
        exact hh
      rcases x0_same15 (n := n) (c := c) (I := I) (W := W) (p := p) (g := g) s12 16 0 mFU rfl (by decide) (fun k hk => by omega) with ⟨a, e⟩ | ⟨a, e⟩
      · have a2 := (rows s (by omega)).1 a
        rcases ih (s + 1) f (by omega) (by omega) (fun t ht y hy => by
          by_cases v : t = s
          · rw [v]; exact a2 y hy
          · exact h t (by omega) y hy) with ⟨b1, b2⟩ | ⟨b1, b2⟩
        · refine Or.inl ⟨b1, head (bdk e ?_)⟩
          show D_X0_sameSpans_2 f 221 188 (mw ((s : Int) + 1)) (st g n c I W p) = _
          rw [mw_n (by omega)]; exact b2
        · refine Or.inr ⟨b1, head (bdk e ?_)⟩
          show D_X0_sameSpans_2 f 221 188 (mw ((s : Int) + 1)) (st g n c I W p) = _
          rw [mw_n (by omega)]; exact b2
      · exact Or.inr ⟨fun w => a ((rows s (by omega)).2 (fun y hy => w s (by omega) y hy)), head (bdk e rfl)⟩
  unfold D_X0_sameSpans
  rcases L (nSa T) 0 mFU (by omega) (by unfold nSa mFU; omega) (fun t ht => by omega) with ⟨a, e⟩ | ⟨a, e⟩
  · exact ⟨1, bdk e rfl, Or.inl ⟨rfl, a⟩⟩
  · exact ⟨0, bdk e rfl, Or.inr ⟨rfl, a⟩⟩
/-! the reference's row of what was -/
def WereM (m : Nat) (S : Nat → Nat → Bool) (I : Nat → Nat → Int) : Prop := ∀ s, s < m → ∀ y, y < 1000 → I (1230 + s) y = bI (S s y)
theorem x9_lw12 {s : Nat} {S : Nat → Bool} (hs : s < 12) (hS : ∀ y, y < 1000 → I (1193 + s) y = bI (S y)) : ∀ (d y f : Nat) (I1 : Nat → Nat → Int), y + d = 1000 → d < f → Fr (fun x _ => x = 1230 + s) I I1 → (∀ z, z < y → I1 (1230 + s) z = bI (S z)) →
    ∃ I', D_X9_laysWere_12 f 1170 (s : Int) (y : Nat) (st true n c I1 W p) = some (st true n c I' W p) ∧ Fr (fun x _ => x = 1230 + s) I I' ∧ ∀ z, z < 1000 → I' (1230 + s) z = bI (S z) := by
  intro d
  induction d with
  | zero =>
    intro y f I1 hy hf h1 h2
    obtain ⟨f, rfl⟩ : ∃ g, f = g + 1 := ⟨f - 1, by omega⟩
    have e : y = 1000 := by omega
    subst e
    exact ⟨I1, if_pos (by omega), h1, h2⟩
  | succ d ih =>
    intro y f I1 hy hf h1 h2
    obtain ⟨f, rfl⟩ : ∃ g, f = g + 1 := ⟨f - 1, by omega⟩
    obtain ⟨I', e, g1, g2⟩ := ih (y + 1) f (u2 I1 (1230 + s) y (bI (S y))) (by omega) (by omega) (fun x k q => by rw [u2_def, if_neg (fun w => q w.1)]; exact h1 x k q) (fun z hz => by
      rw [u2_def]
      by_cases q : z = y
      · subst q; exact if_pos ⟨rfl, rfl⟩
      · rw [if_neg (fun w => q w.2)]; exact h2 z (by omega))
    refine ⟨I', ?_, g1, g2⟩
    show (if (1000 : Int) ≤ (y : Nat) then _ else _) = _
    rw [if_neg (by omega)]
    refine bdk z9R50 (bdk (z9A50 (by omega) (by omega)) (bdk z9R14 (bdk (z9A14 (by omega) (by omega)) (bdk (z9L14 hs (by omega) (by omega)) ?_))))
    rw [toN, toN, h1 _ _ (by omega), hS y (by omega), mw_n (by omega)]
    exact bdk (z9S50 hs (bI_01 _) (by omega) (by omega)) e
theorem x9_laysWere {S : Nat → Nat → Bool} (hw : WFn T) (hT : RefT T I) (hS : ∀ s, s < nSa T → ∀ y, y < 1000 → I (1193 + s) y = bI (S s y)) : ∃ I', D_X9_laysWere 1170 (st true n c I W p) = some (st true n c I' W p) ∧ WereM (nSa T) S I' ∧ Fr (fun x _ => 1230 ≤ x ∧ x < 1242) I I' := by
  have hw' := hw
  unfold WFn at hw'
  have L : ∀ (d s f : Nat) (I1 : Nat → Nat → Int), s + d = nSa T → d < f → Fr (fun x _ => 1230 ≤ x ∧ x < 1242) I I1 → WereM s S I1 →
      ∃ I', D_X9_laysWere_2 f 1170 (s : Nat) (st true n c I1 W p) = some (st true n c I' W p) ∧ WereM (nSa T) S I' ∧ Fr (fun x _ => 1230 ≤ x ∧ x < 1242) I I' := by
    intro d
    induction d with
    | zero =>
      intro s f I1 hs hf h1 h2
      obtain ⟨f, rfl⟩ : ∃ g, f = g + 1 := ⟨f - 1, by omega⟩
      have e : s = nSa T := by omega
      subst e
      refine ⟨I1, bdk z9I ?_, h2, h1⟩
      rw [h1 _ _ (by omega), hT.2.2.1, if_pos (by unfold nSa; omega)]
    | succ d ih =>
      intro s f I1 hs hf h1 h2
      obtain ⟨f, rfl⟩ : ∃ g, f = g + 1 := ⟨f - 1, by omega⟩
      have s12 : s < 12 := by unfold nSa at hs; omega
      obtain ⟨I2, e2, f2, v2⟩ := x9_lw12 (n := n) (c := c) (W := W) (p := p) (I := I1) (S := S s) s12 (fun y hy => by rw [h1 _ _ (by omega)]; exact hS s (by omega) y hy) 1000 0 mFU I1 rfl (by decide) Fr.rfl' (fun z hz => by omega)
      obtain ⟨I3, e3, g1, g2⟩ := ih (s + 1) f I2 (by omega) (by omega) (fun x k q => by rw [f2 x k (by omega)]; exact h1 x k q) (fun t ht y hy => by
        by_cases q : t = s
        · subst q; exact v2 y hy
        · rw [f2 _ _ (by omega)]; exact h2 t (by omega) y hy)
      refine ⟨I3, bdk z9I ?_, g1, g2⟩
      rw [h1 _ _ (by omega), hT.2.2.1, if_neg (by unfold nSa at hs; omega)]
      refine bdk e2 ?_
      rw [mw_n (by omega)]
      exact e3
  obtain ⟨I', e, r⟩ := L (nSa T) 0 mFU I (by omega) (by unfold nSa mFU; omega) Fr.rfl' (fun t ht => by omega)
  exact ⟨I', bdk e rfl, r⟩
theorem x9_aw12 {s : Nat} {S S' : Nat → Bool} (hs : s < 12) (h1 : ∀ y, y < 1000 → I (1230 + s) y = bI (S y)) (h2 : ∀ y, y < 1000 → I (1193 + s) y = bI (S' y)) : ∀ (d y f : Nat), y + d = 1000 → d < f → (∀ z, z < y → S z = S' z) →
    ((∀ z, z < 1000 → S z = S' z) ∧ D_X9_areAsWere_12 f 1170 (s : Int) (y : Nat) (st true n c I W p) = some (Sum.inl ())) ∨ ((¬ ∀ z, z < 1000 → S z = S' z) ∧ D_X9_areAsWere_12 f 1170 (s : Int) (y : Nat) (st true n c I W p) = some (Sum.inr 0)) := by
  intro d
  induction d with
  | zero =>
    intro y f hy hf h
    obtain ⟨f, rfl⟩ : ∃ g, f = g + 1 := ⟨f - 1, by omega⟩
    exact Or.inl ⟨fun z hz => h z (by omega), if_pos (by omega)⟩
  | succ d ih =>
    intro y f hy hf h
    obtain ⟨f, rfl⟩ : ∃ g, f = g + 1 := ⟨f - 1, by omega⟩
    have head : ∀ {R : Option (Unit ⊕ Int)}, (if bI (S y) = bI (S' y) then D_X9_areAsWere_12 f 1170 (s : Int) ((y + 1 : Nat) : Int) (st true n c I W p) else some (Sum.inr 0)) = R → D_X9_areAsWere_12 (f + 1) 1170 (s : Int) (y : Nat) (st true n c I W p) = R := by
      intro R hh
      show (if (1000 : Int) ≤ (y : Nat) then _ else _) = _
      rw [if_neg (by omega)]
      refine bdk z9R50 (bdk (z9A50 (by omega) (by omega)) (bdk (z9L50 hs (by omega) (by omega)) (bdk z9R14 (bdk (z9A14 (by omega) (by omega)) (bdk (z9L14 hs (by omega) (by omega)) ?_)))))
      rw [toN, toN, h1 y (by omega), h2 y (by omega), mw_n (by omega)]
      exact hh
    by_cases q : S y = S' y
    · rcases ih (y + 1) f (by omega) (by omega) (fun z hz => by
        by_cases v : z = y
        · rw [v]; exact q
        · exact h z (by omega)) with ⟨a, e⟩ | ⟨a, e⟩
      · exact Or.inl ⟨a, head (by rw [q, if_pos rfl]; exact e)⟩
      · exact Or.inr ⟨a, head (by rw [q, if_pos rfl]; exact e)⟩
    · refine Or.inr ⟨fun a => q (a y (by omega)), head (by rw [if_neg]; intro w; apply q; revert w; cases S y <;> cases S' y <;> decide)⟩
theorem x9_areAsWere {S S' : Nat → Nat → Bool} (hw : WFn T) (hT : RefT T I) (h1 : WereM (nSa T) S I) (h2 : ∀ s, s < nSa T → ∀ y, y < 1000 → I (1193 + s) y = bI (S' s y)) : ∃ v, D_X9_areAsWere 1170 (st true n c I W p) = some v ∧ ((v = 1 ∧ SameS (nSa T) S S') ∨ (v = 0 ∧ ¬ SameS (nSa T) S S')) := by
  have hw' := hw
  unfold WFn at hw'
  have L : ∀ (d s f : Nat), s + d = nSa T → d < f → (∀ t, t < s → ∀ y, y < 1000 → S t y = S' t y) →
      (SameS (nSa T) S S' ∧ D_X9_areAsWere_2 f 1170 (s : Nat) (st true n c I W p) = some (Sum.inl ())) ∨ (¬ SameS (nSa T) S S' ∧ D_X9_areAsWere_2 f 1170 (s : Nat) (st true n c I W p) = some (Sum.inr 0)) := by
    intro d
    induction d with
    | zero =>
      intro s f hs hf h
      obtain ⟨f, rfl⟩ : ∃ g, f = g + 1 := ⟨f - 1, by omega⟩
      refine Or.inl ⟨fun t ht => h t (by omega), bdk z9I ?_⟩
      rw [hT.2.2.1, if_pos (by unfold nSa at hs; omega)]
    | succ d ih =>
      intro s f hs hf h
      obtain ⟨f, rfl⟩ : ∃ g, f = g + 1 := ⟨f - 1, by omega⟩
      have s12 : s < 12 := by unfold nSa at hs; omega
      have head : ∀ {R : Option (Unit ⊕ Int)}, ((D_X9_areAsWere_12 mFU 1170 (s : Int) 0 (st true n c I W p)).bind fun r2 => match r2 with | Sum.inl z3 => D_X9_areAsWere_2 f 1170 (mw ((s : Int) + 1)) (st true n c I W p) | Sum.inr z4 => some (Sum.inr z4)) = R → D_X9_areAsWere_2 (f + 1) 1170 (s : Nat) (st true n c I W p) = R := by
        intro R hh
        refine bdk z9I ?_
        rw [hT.2.2.1, if_neg (by unfold nSa at hs; omega)]
        exact hh
      rcases x9_aw12 (n := n) (c := c) (I := I) (W := W) (p := p) s12 (h1 s (by omega)) (h2 s (by omega)) 1000 0 mFU rfl (by decide) (fun k hk => by omega) with ⟨a, e⟩ | ⟨a, e⟩
      · rcases ih (s + 1) f (by omega) (by omega) (fun t ht y hy => by
          by_cases v : t = s
          · rw [v]; exact a y hy
          · exact h t (by omega) y hy) with ⟨b1, b2⟩ | ⟨b1, b2⟩
        · refine Or.inl ⟨b1, head (bdk e ?_)⟩
          show D_X9_areAsWere_2 f 1170 (mw ((s : Int) + 1)) (st true n c I W p) = _
          rw [mw_n (by omega)]; exact b2
        · refine Or.inr ⟨b1, head (bdk e ?_)⟩
          show D_X9_areAsWere_2 f 1170 (mw ((s : Int) + 1)) (st true n c I W p) = _
          rw [mw_n (by omega)]; exact b2
      · exact Or.inr ⟨fun w => a (fun y hy => w s (by omega) y hy), head (bdk e rfl)⟩
  unfold D_X9_areAsWere
  rcases L (nSa T) 0 mFU (by omega) (by unfold nSa mFU; omega) (fun t ht => by omega) with ⟨a, e⟩ | ⟨a, e⟩
  · exact ⟨1, bdk e rfl, Or.inl ⟨rfl, a⟩⟩
  · exact ⟨0, bdk e rfl, Or.inr ⟨rfl, a⟩⟩
end SU
