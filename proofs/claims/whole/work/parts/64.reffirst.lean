/-! THE PURE PART: the reference's misfits and first spans -/
def FS (T : Td) : Nat → Nat → Bool := fun s y => firstS T (T 0) (T 1) s y
theorem mw_3 {k : Nat} (h : k < 1000) : mw (3 + (k : Int)) = ((3 + k : Nat) : Int) := by rw [mw_of (by omega) (by omega)]; omega
theorem mw_9 {k : Nat} (h : k < 1000) : mw (9 + (k : Int)) = ((9 + k : Nat) : Int) := by rw [mw_of (by omega) (by omega)]; omega
theorem misR_s (T : Td) (rv : Int) (s : Nat) (y : Int) (d k : Nat) (acc : Int) : misR T rv s y (d + 1) k acc = if ageS T (y + tSa T s (3 + k)) = -1 then -1 else misR T rv s y d (k + 1) (acc + absI (ageS T (y + tSa T s (3 + k)) + rv - tSa T s (9 + k))) := rfl
section RF
variable {n : Nat} {c : Nat × Nat × Nat × Nat} {I : Nat → Nat → Int} {W : Nat → Nat → BitVec 64} {p : Nat → Nat} {T : Td} {N : NS}
theorem x9_sampleAt {s w : Nat} (hs : s < 12) (hw : w < 15) (hT : RefT T I) : D_X9_sampleAt 1170 (s : Int) (w : Int) (st true n c I W p) = some (tSa T s w) := by
  unfold D_X9_sampleAt
  refine bdk z9R2 ?_
  rw [mw_of (x := 15 * (s : Int)) (by omega) (by omega), mw_of (x := 123 + 15 * (s : Int)) (by omega) (by omega), mw_of (by omega) (by omega)]
  refine bdk (z9L2 (by omega) (by omega)) ?_
  rw [show (123 + 15 * (s : Int) + (w : Int)).toNat = 123 + 15 * s + w by omega, hT.1 _ (by omega)]
  rfl
theorem z9T1 (hT : RefT T I) : (gR (st true n c I W p) 1170 8 2).bind (fun v4 => lI (st true n c I W p) v4 1) = some (T 1) := bdk z9R2 (by rw [z9L2 (by omega) (by omega)]; exact congrArg some (hT.1 1 (by decide)))
theorem x9_m48 {s y : Nat} (hn : WFn T) (hk : WFk T) (hT : RefT T I) (hs : s < 12) (hy : y < 1000) (hS : 0 ≤ tSa T s 2 ∧ tSa T s 2 ≤ 6) (hp : ∀ k : Nat, (k : Int) < tSa T s 2 → (0 ≤ tSa T s (3 + k) ∧ tSa T s (3 + k) ≤ 300) ∧ 0 ≤ tSa T s (9 + k) ∧ tSa T s (9 + k) ≤ 9999) :
    ∀ (d k f : Nat) (acc : Int), (k : Int) + d = tSa T s 2 → d < f → 0 ≤ acc ∧ acc ≤ 11000 * k → ∃ r : Int ⊕ Int, D_X9_misfitOf_48 f 1170 (s : Int) (y : Int) acc (k : Nat) (st true n c I W p) = some r ∧ r.elim id id = misR T (T 1) s y d k acc := by
  have hn' := hn
  unfold WFn at hn'
  intro d
  induction d with
  | zero =>
    intro k f acc hd hf ha
    obtain ⟨f, rfl⟩ : ∃ g, f = g + 1 := ⟨f - 1, by omega⟩
    refine ⟨Sum.inl acc, ?_, rfl⟩
    refine bdk z9T (bdk (x9_sampleAt (w := 2) hs (by decide) hT) ?_)
    exact if_pos (by omega)
  | succ d ih =>
    intro k f acc hd hf ha
    obtain ⟨f, rfl⟩ : ∃ g, f = g + 1 := ⟨f - 1, by omega⟩
    have hk2 := hp k (by omega)
    have ar := ageS_rng hn hk ((y : Int) + tSa T s (3 + k))
    have head : ∀ {R : Option (Int ⊕ Int)}, (if ageS T (y + tSa T s (3 + k)) ≠ (-1) then
        (gR (st true n c I W p) 1170 8 2).bind fun v4 =>
        (lI (st true n c I W p) v4 1).bind fun v5 =>
        (tgO (st true n c I W p) 1170 8).bind fun _ =>
        (D_X9_sampleAt 1170 (s : Int) (mw (9 + (k : Int))) (st true n c I W p)).bind fun r6 =>
        (D_X9_misfitOf_48 f) 1170 (s : Int) (y : Int) (mw (acc + (if 0 ≤ (mw ((mw (ageS T (y + tSa T s (3 + k)) + v5)) - r6)) then (mw ((mw (ageS T (y + tSa T s (3 + k)) + v5)) - r6)) else mw (0 - (mw ((mw (ageS T (y + tSa T s (3 + k)) + v5)) - r6)))))) (mw ((k : Int) + 1)) (st true n c I W p)
      else some (Sum.inr (-1))) = R → D_X9_misfitOf_48 (f + 1) 1170 (s : Int) (y : Int) acc (k : Nat) (st true n c I W p) = R := by
      intro R h
      refine bdk z9T (bdk (x9_sampleAt (w := 2) hs (by decide) hT) ?_)
      rw [if_neg (by omega), mw_3 (by omega)]
      refine bdk z9T (bdk (x9_sampleAt (w := 3 + k) hs (by omega) hT) (bdk z9T ?_))
      rw [mw_of (x := (y : Int) + tSa T s (3 + k)) (by omega) (by omega)]
      exact bdk (x9_ageOf hn hk hT (by omega)) h
    by_cases q : ageS T (y + tSa T s (3 + k)) = -1
    · refine ⟨Sum.inr (-1), head ?_, by rw [misR_s, if_pos q]; rfl⟩
      rw [if_neg (by omega)]
    · have ab := absI_rng (x := ageS T (y + tSa T s (3 + k)) + T 1 - tSa T s (9 + k)) (b := 11000) (by omega)
      obtain ⟨r, e, er⟩ := ih (k + 1) f (acc + absI (ageS T (y + tSa T s (3 + k)) + T 1 - tSa T s (9 + k))) (by omega) (by omega) (by omega)
      refine ⟨r, head ?_, by rw [misR_s, if_neg q]; exact er⟩
      rw [if_pos q, mw_9 (by omega)]
      refine bdk z9R2 (bdk (z9L2 (by omega) (by omega)) (bdk z9T (bdk (x9_sampleAt (w := 9 + k) hs (by omega) hT) ?_)))
      rw [show I 1172 (1 : Int).toNat = T 1 from hT.1 1 (by decide), mw_of (x := ageS T (y + tSa T s (3 + k)) + T 1) (by omega) (by omega), mw_of (x := ageS T (y + tSa T s (3 + k)) + T 1 - tSa T s (9 + k)) (by omega) (by omega), absI_mw (by omega), mw_of (x := acc + _) (by omega) (by omega), mw_n (by omega)]
      exact e
theorem x9_misfit {s y : Nat} (hw : WF T) (hT : RefT T I) (hs : (s : Int) < T 304) (hy : y < 1000) : D_X9_misfitOf 1170 (s : Int) (y : Int) (st true n c I W p) = some (misS T (T 1) s y) := by
  obtain ⟨hn, hk, hS, -, -⟩ := hw
  have hn' := hn
  unfold WFn at hn'
  have hs12 : s < 12 := by omega
  unfold D_X9_misfitOf misS
  refine bdk z9T (bdk (x9_sampleAt (w := 0) hs12 (by decide) hT) ?_)
  have ar := ageS_rng hn hk (y : Int)
  rcases hS s hs with ⟨k0, a, b⟩ | ⟨k1, a, b, d⟩
  · rw [if_neg (by omega), if_pos k0]
    refine bdk z9T (bdk (x9_ageOf hn hk hT (by omega)) ?_)
    by_cases q : ageS T (y : Int) = -1
    · rw [if_neg (by omega), if_pos q]
      rfl
    · rw [if_pos q, if_neg q]
      refine bdk z9R2 (bdk (z9L2 (by omega) (by omega)) (bdk z9T (bdk (x9_sampleAt (w := 1) hs12 (by decide) hT) ?_)))
      rw [show I 1172 (1 : Int).toNat = T 1 from hT.1 1 (by decide), mw_of (x := ageS T (y : Int) + T 1) (by omega) (by omega), mw_of (x := ageS T (y : Int) + T 1 - tSa T s 1) (by omega) (by omega), absI_mw (by omega)]
      rfl
  · rw [if_pos (by omega), if_neg (by omega)]
    obtain ⟨r, e, er⟩ := x9_m48 (n := n) (c := c) (W := W) (p := p) hn hk hT hs12 hy (by omega) d (tSa T s 2).toNat 0 mFU 0 (by omega) (by unfold mFU; omega) (by omega)
    refine bdk e ?_
    rw [← er]
    cases r <;> rfl
theorem x9_lm4 {s : Nat} (hw : WF T) (hT : RefT T I) (hs : (s : Int) < T 304) : ∀ (d y f : Nat) (b : Int), y + d = 1000 → d < f → D_X9_leastMisfit_4 f 1170 (s : Int) b (y : Nat) (st true n c I W p) = some (lmS T (T 1) s d y b) := by
  intro d
  induction d with
  | zero =>
    intro y f b hy hf
    obtain ⟨f, rfl⟩ : ∃ g, f = g + 1 := ⟨f - 1, by omega⟩
    exact if_pos (by omega)
  | succ d ih =>
    intro y f b hy hf
    obtain ⟨f, rfl⟩ : ∃ g, f = g + 1 := ⟨f - 1, by omega⟩
    show (if (1000 : Int) ≤ (y : Nat) then _ else _) = some (lmS T (T 1) s d (y + 1) (if misS T (T 1) s y = -1 then b else if b = -1 then misS T (T 1) s y else if b ≤ misS T (T 1) s y then b else misS T (T 1) s y))
    rw [if_neg (by omega)]
    refine bdk z9T (bdk (x9_misfit hw hT hs (by omega)) ?_)
    unfold D_X9_leastMisfit_36 D_X9_leastMisfit_39
    rw [mw_n (by omega)]
    by_cases q : misS T (T 1) s y = -1
    · rw [if_pos q, if_pos q]
      exact ih (y + 1) f b (by omega) (by omega)
    · rw [if_neg q, if_neg q]
      by_cases q2 : b = -1
      · rw [if_pos q2, if_pos q2]
        exact ih (y + 1) f _ (by omega) (by omega)
      · rw [if_neg q2, if_neg q2]
        by_cases q3 : b ≤ misS T (T 1) s y
        · rw [if_pos q3, if_pos q3]
          exact ih (y + 1) f b (by omega) (by omega)
        · rw [if_neg q3, if_neg q3]
          exact ih (y + 1) f _ (by omega) (by omega)
theorem lmS_rng {rv : Int} {s : Nat} (hw : WF T) (hs : (s : Int) < T 304) (hrv : -500 ≤ rv ∧ rv ≤ 500) : ∀ (d y : Nat) (b : Int), -1 ≤ b ∧ b ≤ 66000 → -1 ≤ lmS T rv s d y b ∧ lmS T rv s d y b ≤ 66000 := by
  intro d
  induction d with
  | zero => intro y b h; exact h
  | succ d ih =>
    intro y b h
    have := misS_rng hw hs hrv (y : Int)
    refine ih (y + 1) _ ?_
    split
    · exact h
    · split
      · omega
      · split <;> omega
theorem x9_ff47 {s : Nat} {most : Int} (hw : WF T) (hT : RefT T I) (hs : (s : Int) < T 304) : ∀ (d y f : Nat) (I1 : Nat → Nat → Int), y + d = 1000 → d < f → Fr (fun b _ => b = 1206 + s) I I1 → (∀ z, z < y → I1 (1206 + s) z = bI (decide (misS T (T 1) s z ≠ -1 ∧ misS T (T 1) s z ≤ most))) →
    ∃ I', D_X9_findsFirst_47 f 1170 (s : Int) most (y : Nat) (st true n c I1 W p) = some (st true n c I' W p) ∧ Fr (fun b _ => b = 1206 + s) I I' ∧ ∀ z, z < 1000 → I' (1206 + s) z = bI (decide (misS T (T 1) s z ≠ -1 ∧ misS T (T 1) s z ≤ most)) := by
  have hn := hw.1
  unfold WFn at hn
  intro d
  induction d with
  | zero =>
    intro y f I1 hy hf h1 h2
    obtain ⟨f, rfl⟩ : ∃ g, f = g + 1 := ⟨f - 1, by omega⟩
    have e : y = 1000 := by omega
    subst e
    exact ⟨I1, if_pos (by omega), h1, h2⟩
  | succ d ih =>
    intro y f I1 hy hf h1 h2
    obtain ⟨f, rfl⟩ : ∃ g, f = g + 1 := ⟨f - 1, by omega⟩
    have hT1 : RefT T I1 := hT.fr h1 (fun b k q => by omega)
    obtain ⟨I', e, g1, g2⟩ := ih (y + 1) f (u2 I1 (1206 + s) y (bI (decide (misS T (T 1) s y ≠ -1 ∧ misS T (T 1) s y ≤ most)))) (by omega) (by omega) (fun b k q => by
      rw [u2_def, if_neg (fun w => q w.1)]
      exact h1 b k q) (fun z hz => by
      rw [u2_def]
      by_cases q : z = y
      · subst q
        exact if_pos ⟨rfl, rfl⟩
      · rw [if_neg (fun w => q w.2)]
        exact h2 z (by omega))
    refine ⟨I', ?_, g1, g2⟩
    show (if (1000 : Int) ≤ (y : Nat) then _ else _) = _
    rw [if_neg (by omega)]
    refine bdk z9T (bdk (x9_misfit hw hT1 hs (by omega)) (bdk z9R15 (bdk (z9A15 (by omega) (by omega)) ?_)))
    unfold D_X9_findsFirst_85 D_X9_findsFirst_86
    rw [mw_n (by omega)]
    by_cases q : misS T (T 1) s y = -1
    · rw [if_pos q]
      rw [decide_eq_false (fun w => w.1 q)] at e
      exact bdk (z9S15 (by omega) (Or.inl rfl) (by omega) (by omega)) e
    · rw [if_neg q]
      by_cases q2 : most < misS T (T 1) s y
      · rw [if_pos q2]
        rw [decide_eq_false (fun w => by omega)] at e
        exact bdk (z9S15 (by omega) (Or.inl rfl) (by omega) (by omega)) e
      · rw [if_neg q2]
        rw [decide_eq_true ⟨q, by omega⟩] at e
        exact bdk (z9S15 (by omega) (Or.inr rfl) (by omega) (by omega)) e
theorem x9_findsFirst {s : Nat} (hw : WF T) (hT : RefT T I) (hs : (s : Int) < T 304) :
    ∃ I', D_X9_findsFirst 1170 (s : Int) (st true n c I W p) = some (st true n c I' W p) ∧ Fr (fun b _ => b = 1206 + s) I I' ∧ ∀ z, z < 1000 → I' (1206 + s) z = bI (FS T s z) := by
  have hn := hw.1
  unfold WFn at hn
  have hs12 : s < 12 := by omega
  unfold D_X9_findsFirst D_X9_findsFirst_44
  rcases hw.2.2.1 s hs with ⟨k0, a, b⟩ | ⟨k1, a, b, d⟩
  · obtain ⟨I', e, f1, f2⟩ := x9_ff47 (n := n) (c := c) (W := W) (p := p) (most := T 0 * tSa T s 2) hw hT hs 1000 0 mFU I rfl (by decide) Fr.rfl' (fun z hz => by omega)
    refine ⟨I', bdk z9T (bdk (x9_sampleAt (w := 0) hs12 (by decide) hT) ?_), f1, fun z hz => ?_⟩
    · rw [if_neg (by omega)]
      refine bdk z9R2 (bdk (z9L2 (by omega) (by omega)) (bdk z9T (bdk (x9_sampleAt (w := 2) hs12 (by decide) hT) ?_)))
      rw [show I 1172 (0 : Int).toNat = T 0 from hT.1 0 (by decide)]
      have m1 : 0 ≤ T 0 * tSa T s 2 := Int.mul_nonneg (by omega) (by omega)
      have m2 : T 0 * tSa T s 2 ≤ 3 * tSa T s 2 := Int.mul_le_mul_of_nonneg_right (by omega) (by omega)
      rw [mw_of (by omega) (by omega)]
      exact bdk e rfl
    · rw [f2 z hz]
      show _ = bI (firstS T (T 0) (T 1) s z)
      unfold firstS
      rw [if_pos k0]
  · have lr := lmS_rng (rv := T 1) hw hs (by omega) 1000 0 (-1) (by omega)
    have m1 : 0 ≤ T 0 * tSa T s 1 := Int.mul_nonneg (by omega) (by omega)
    have m2 : T 0 * tSa T s 1 ≤ 3 * tSa T s 1 := Int.mul_le_mul_of_nonneg_right (by omega) (by omega)
    obtain ⟨I', e, f1, f2⟩ := x9_ff47 (n := n) (c := c) (W := W) (p := p) (most := leastS T (T 1) s + T 0 * tSa T s 1) hw hT hs 1000 0 mFU I rfl (by decide) Fr.rfl' (fun z hz => by omega)
    refine ⟨I', bdk z9T (bdk (x9_sampleAt (w := 0) hs12 (by decide) hT) ?_), f1, fun z hz => ?_⟩
    · rw [if_pos (by omega)]
      have el : D_X9_leastMisfit 1170 (s : Int) (st true n c I W p) = some (leastS T (T 1) s) := by
        unfold D_X9_leastMisfit
        exact bdk (x9_lm4 hw hT hs 1000 0 mFU (-1) rfl (by decide)) rfl
      refine bdk z9T (bdk el (bdk z9R2 (bdk (z9L2 (by omega) (by omega)) (bdk z9T (bdk (x9_sampleAt (w := 1) hs12 (by decide) hT) ?_)))))
      rw [show I 1172 (0 : Int).toNat = T 0 from hT.1 0 (by decide)]
      unfold leastS at e ⊢
      rw [mw_of (x := T 0 * tSa T s 1) (by omega) (by omega), mw_of (by omega) (by omega)]
      exact bdk e rfl
    · rw [f2 z hz]
      show _ = bI (firstS T (T 0) (T 1) s z)
      unfold firstS
      rw [if_neg (by omega : ¬ tSa T s 0 = 0)]
end RF
