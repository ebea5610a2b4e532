/-! THE PURE PART: the curve's ages, misfits, first spans -/
theorem mdiv_t {x y : Int} (hx : mIn x) (hy : mIn y) (h : x ≠ -2147483648) : mdiv x y = x.tdiv y := by
  unfold mdiv
  rw [Int32.toInt_div, oi_to hx, oi_to hy]
  refine Int.bmod_eq_of_le ?_ ?_
  · have := Int.natAbs_tdiv_le_natAbs x y
    unfold mIn at hx
    omega
  · have := Int.natAbs_tdiv_le_natAbs x y
    unfold mIn at hx
    omega
def segA (T : Td) (k : Nat) (y : Int) : Int := T (330 + k) + ((T (330 + k + 1) - T (330 + k)) * (y - T (310 + k))).tdiv (T (310 + k + 1) - T (310 + k))
def ageK (T : Td) (y : Int) : Nat → Int
  | 0 => -1
  | k + 1 => if T (310 + k) ≤ y ∧ y ≤ T (310 + k + 1) then segA T k y else ageK T y k
def ageS (T : Td) (y : Int) : Int := ageK T y (nKn T - 1)
theorem td_rng {r b s : Int} (hr : -9999 ≤ r ∧ r ≤ 9999) (hb : 0 ≤ b ∧ b ≤ s) (hs : 0 < s) (hs2 : s ≤ 999) : (0 ≤ r → 0 ≤ (r * b).tdiv s ∧ (r * b).tdiv s ≤ r) ∧ (r ≤ 0 → r ≤ (r * b).tdiv s ∧ (r * b).tdiv s ≤ 0) := by
  have pos : ∀ q : Int, 0 ≤ q → 0 ≤ (q * b).tdiv s ∧ (q * b).tdiv s ≤ q := by
    intro q hq
    have h1 : 0 ≤ q * b := Int.mul_nonneg hq hb.1
    rw [Int.tdiv_eq_ediv_of_nonneg h1]
    refine ⟨Int.ediv_nonneg h1 (by omega), ?_⟩
    have h2 : q * b ≤ q * s := Int.mul_le_mul_of_nonneg_left hb.2 hq
    refine Int.le_trans (Int.ediv_le_ediv hs h2) ?_
    rw [Int.mul_ediv_cancel _ (by omega)]
    exact Int.le_refl _
  refine ⟨pos r, fun h => ?_⟩
  have := pos (-r) (by omega)
  rw [Int.neg_mul, Int.neg_tdiv] at this
  omega
theorem kn_mono {T : Td} (h : WFk T) {k : Nat} : ∀ d, ((k + d : Nat) : Int) < T 303 → T (310 + k) ≤ T (310 + (k + d)) := by
  intro d
  induction d with
  | zero => intro _; exact Int.le_refl _
  | succ d ih =>
    intro hd
    have h1 := ih (by omega)
    have h2 := h.2 (k + d) (by omega)
    have e : 310 + (k + (d + 1)) = 310 + (k + d) + 1 := by omega
    rw [e]
    omega
theorem kn_le {T : Td} (h : WFk T) {k j : Nat} (hkj : k ≤ j) (hj : (j : Int) < T 303) : T (310 + k) ≤ T (310 + j) := by
  have := kn_mono h (k := k) (j - k) (by omega)
  rw [show k + (j - k) = j by omega] at this
  exact this
theorem seg_end {T : Td} (h : WFk T) {k : Nat} (hk : (k : Int) + 1 < T 303) : segA T k (T (310 + k + 1)) = T (330 + k + 1) := by
  have := h.2 k hk
  unfold segA
  rw [Int.mul_tdiv_cancel _ (by omega)]
  omega
theorem seg_beg {T : Td} (k : Nat) : segA T k (T (310 + k)) = T (330 + k) := by
  unfold segA
  rw [Int.sub_self, Int.mul_zero, Int.zero_tdiv]
  omega
theorem ageK_at {T : Td} (h : WFk T) {y : Int} {k : Nat} (h1 : T (310 + k) ≤ y) (h2 : y ≤ T (310 + k + 1)) : ∀ j, k < j → (j : Int) < T 303 → ageK T y j = segA T k y := by
  intro j
  induction j with
  | zero => intro q; omega
  | succ j ih =>
    intro q hj
    show (if T (310 + j) ≤ y ∧ y ≤ T (310 + j + 1) then segA T j y else ageK T y j) = _
    by_cases e : j = k
    · subst e
      rw [if_pos ⟨h1, h2⟩]
    · by_cases w : T (310 + j) ≤ y ∧ y ≤ T (310 + j + 1)
      · rw [if_pos w]
        have a := kn_le h (k := k + 1) (j := j) (by omega) (by omega)
        have a2 : 310 + (k + 1) = 310 + k + 1 := by omega
        rw [a2] at a
        have e1 : y = T (310 + k + 1) := by omega
        have e2 : j = k + 1 := by
          by_cases z : j = k + 1
          · exact z
          · have b := kn_le h (k := k + 2) (j := j) (by omega) (by omega)
            have c := h.2 (k + 1) (by omega)
            have b2 : 310 + (k + 2) = 310 + k + 1 + 1 := by omega
            rw [b2] at b
            rw [a2] at c
            omega
        subst e2
        rw [e1, seg_end h (by omega)]
        have := seg_beg (T := T) (k + 1)
        have b3 : 330 + (k + 1) = 330 + k + 1 := by omega
        rw [a2, b3] at this
        exact this
      · rw [if_neg w]
        exact ih (by omega) (by omega)
theorem ageS_at {T : Td} (hn : WFn T) (h : WFk T) {y : Int} {k : Nat} (hk : (k : Int) + 1 < T 303) (h1 : T (310 + k) ≤ y) (h2 : y ≤ T (310 + k + 1)) : ageS T y = segA T k y := by
  unfold WFn at hn
  exact ageK_at h h1 h2 _ (by unfold nKn; omega) (by unfold nKn; omega)
theorem ageK_out {T : Td} {y : Int} : ∀ j, (∀ k, k < j → ¬ (T (310 + k) ≤ y ∧ y ≤ T (310 + k + 1))) → ageK T y j = -1 := by
  intro j
  induction j with
  | zero => intro _; rfl
  | succ j ih =>
    intro h
    show (if T (310 + j) ≤ y ∧ y ≤ T (310 + j + 1) then segA T j y else ageK T y j) = _
    rw [if_neg (h j (by omega))]
    exact ih (fun k hk => h k (by omega))
theorem ageS_out {T : Td} (hn : WFn T) (h : WFk T) {y : Int} (hy : y < T 310 ∨ T (310 + (nKn T - 1)) < y) : ageS T y = -1 := by
  unfold WFn at hn
  refine ageK_out _ (fun k hk => ?_)
  have a := kn_le h (k := 0) (j := k) (by omega) (by unfold nKn at hk; omega)
  have b := kn_le h (k := k + 1) (j := nKn T - 1) (by omega) (by unfold nKn; omega)
  have b2 : 310 + (k + 1) = 310 + k + 1 := by omega
  rw [b2] at b
  simp only [Nat.add_zero] at a
  omega
theorem seg_rng {T : Td} (h : WFk T) {k : Nat} {y : Int} (hk : (k : Int) + 1 < T 303) (h1 : T (310 + k) ≤ y) (h2 : y ≤ T (310 + k + 1)) : 0 ≤ segA T k y ∧ segA T k y ≤ 9999 := by
  have a := h.1 k (by omega)
  have b := h.1 (k + 1) (by omega)
  have c := h.2 k hk
  have b2 : 310 + (k + 1) = 310 + k + 1 := by omega
  have b3 : 330 + (k + 1) = 330 + k + 1 := by omega
  rw [b2, b3] at b
  unfold segA
  have t := td_rng (r := T (330 + k + 1) - T (330 + k)) (b := y - T (310 + k)) (s := T (310 + k + 1) - T (310 + k)) (by omega) (by omega) (by omega) (by omega)
  by_cases q : 0 ≤ T (330 + k + 1) - T (330 + k)
  · have := t.1 q
    omega
  · have := t.2 (by omega)
    omega
theorem ageK_rng {T : Td} (h : WFk T) {y : Int} : ∀ j : Nat, (j : Int) < T 303 → ageK T y j = -1 ∨ (0 ≤ ageK T y j ∧ ageK T y j ≤ 9999) := by
  intro j
  induction j with
  | zero => intro _; exact Or.inl rfl
  | succ j ih =>
    intro hj
    have e0 : ageK T y (j + 1) = if T (310 + j) ≤ y ∧ y ≤ T (310 + j + 1) then segA T j y else ageK T y j := rfl
    rw [e0]
    split
    · rename_i q
      exact Or.inr (seg_rng h (by omega) q.1 q.2)
    · exact ih (by omega)
theorem ageS_rng {T : Td} (hn : WFn T) (h : WFk T) (y : Int) : ageS T y = -1 ∨ (0 ≤ ageS T y ∧ ageS T y ≤ 9999) := by
  unfold WFn at hn
  exact ageK_rng h (nKn T - 1) (by unfold nKn; omega)
def absI (x : Int) : Int := if 0 ≤ x then x else 0 - x
theorem absI_rng {x b : Int} (h : -b ≤ x ∧ x ≤ b) : 0 ≤ absI x ∧ absI x ≤ b := by unfold absI; split <;> omega
theorem absI_mw {x : Int} (h : -1000000 ≤ x ∧ x ≤ 1000000) : (if 0 ≤ x then x else mw (0 - x)) = absI x := by unfold absI; split; rfl; exact mw_of (by omega) (by omega)
def misR (T : Td) (rv : Int) (s : Nat) (y : Int) : Nat → Nat → Int → Int
  | 0, _, acc => acc
  | d + 1, k, acc => if ageS T (y + tSa T s (3 + k)) = -1 then -1 else misR T rv s y d (k + 1) (acc + absI (ageS T (y + tSa T s (3 + k)) + rv - tSa T s (9 + k)))
def misS (T : Td) (rv : Int) (s : Nat) (y : Int) : Int :=
  if tSa T s 0 = 0 then (if ageS T y = -1 then -1 else absI (ageS T y + rv - tSa T s 1)) else misR T rv s y (tSa T s 2).toNat 0 0
def lmS (T : Td) (rv : Int) (s : Nat) : Nat → Nat → Int → Int
  | 0, _, b => b
  | d + 1, y, b => lmS T rv s d (y + 1) (if misS T rv s y = -1 then b else if b = -1 then misS T rv s y else if b ≤ misS T rv s y then b else misS T rv s y)
def leastS (T : Td) (rv : Int) (s : Nat) : Int := lmS T rv s 1000 0 (-1)
def firstS (T : Td) (sg rv : Int) (s y : Nat) : Bool := decide (misS T rv s y ≠ -1 ∧ misS T rv s y ≤ (if tSa T s 0 = 0 then sg * tSa T s 2 else leastS T rv s + sg * tSa T s 1))
theorem misR_rng {T : Td} {rv : Int} {s : Nat} {y : Int} (hn : WFn T) (h : WFk T) (hrv : -500 ≤ rv ∧ rv ≤ 500) : ∀ d k acc, (∀ j, k ≤ j → j < k + d → 0 ≤ tSa T s (9 + j) ∧ tSa T s (9 + j) ≤ 9999) → 0 ≤ acc → misR T rv s y d k acc = -1 ∨ (0 ≤ misR T rv s y d k acc ∧ misR T rv s y d k acc ≤ acc + 11000 * d) := by
  intro d
  induction d with
  | zero => intro k acc _ ha; exact Or.inr ⟨ha, by show acc ≤ _; omega⟩
  | succ d ih =>
    intro k acc hj ha
    have e0 : misR T rv s y (d + 1) k acc = if ageS T (y + tSa T s (3 + k)) = -1 then -1 else misR T rv s y d (k + 1) (acc + absI (ageS T (y + tSa T s (3 + k)) + rv - tSa T s (9 + k))) := rfl
    rw [e0]
    split
    · exact Or.inl rfl
    · have a := ageS_rng hn h (y + tSa T s (3 + k))
      have b := hj k (by omega) (by omega)
      have c := absI_rng (x := ageS T (y + tSa T s (3 + k)) + rv - tSa T s (9 + k)) (b := 11000) (by omega)
      rcases ih (k + 1) (acc + absI (ageS T (y + tSa T s (3 + k)) + rv - tSa T s (9 + k))) (fun j h1 h2 => hj j (by omega) (by omega)) (by omega) with e | e
      · exact Or.inl e
      · exact Or.inr (by omega)
theorem misS_rng {T : Td} {rv : Int} {s : Nat} (hw : WF T) (hs : (s : Int) < T 304) (hrv : -500 ≤ rv ∧ rv ≤ 500) (y : Int) : misS T rv s y = -1 ∨ (0 ≤ misS T rv s y ∧ misS T rv s y ≤ 66000) := by
  obtain ⟨hn, hk, hS, -, -⟩ := hw
  unfold misS
  rcases hS s hs with ⟨k0, a, b⟩ | ⟨k1, a, b, d⟩
  · rw [if_pos k0]
    split
    · exact Or.inl rfl
    · have e := ageS_rng hn hk y
      have c := absI_rng (x := ageS T y + rv - tSa T s 1) (b := 11000) (by omega)
      exact Or.inr (by omega)
  · rw [if_neg (by omega)]
    rcases misR_rng (s := s) (y := y) hn hk hrv (tSa T s 2).toNat 0 0 (fun j h1 h2 => (d j (by omega)).2) (Int.le_refl 0) with e | e
    · exact Or.inl e
    · exact Or.inr (by omega)
section RG
variable {n : Nat} {c : Nat × Nat × Nat × Nat} {I : Nat → Nat → Int} {W : Nat → Nat → BitVec 64} {p : Nat → Nat} {T : Td} {N : NS}
theorem x9_age29 (hn : WFn T) (hk : WFk T) (hT : RefT T I) {y : Int} (hy2 : y ≤ T (310 + (nKn T - 1))) : ∀ d k f : Nat, (k : Int) + d + 2 = T 303 → d < f → T (310 + k) ≤ y →
    ∃ j : Nat, D_X9_ageOf_29 f 1170 y (k : Nat) (st true n c I W p) = some (j : Int) ∧ (j : Int) + 1 < T 303 ∧ T (310 + j) ≤ y ∧ y ≤ T (310 + j + 1) := by
  unfold WFn at hn
  intro d
  induction d with
  | zero =>
    intro k f hd hf h1
    obtain ⟨f, rfl⟩ : ∃ g, f = g + 1 := ⟨f - 1, by omega⟩
    refine ⟨k, ?_, by omega, h1, ?_⟩
    · refine bdk z9I ?_
      rw [hT.2.1, mw_of (by omega) (by omega)]
      exact if_pos (by omega)
    · rw [show 310 + k + 1 = 310 + (nKn T - 1) by unfold nKn; omega]
      exact hy2
  | succ d ih =>
    intro k f hd hf h1
    obtain ⟨f, rfl⟩ : ∃ g, f = g + 1 := ⟨f - 1, by omega⟩
    by_cases q : y ≤ T (310 + k + 1)
    · refine ⟨k, ?_, by omega, h1, q⟩
      refine bdk z9I ?_
      rw [hT.2.1, mw_of (by omega) (by omega), if_neg (by omega), mw_n (by omega)]
      refine bdk z9R9 (bdk (z9L9 (by omega) (by omega)) ?_)
      rw [toN, hT.2.2.2.2.1 _ (by omega)]
      exact if_pos q
    · obtain ⟨j, e, j1, j2, j3⟩ := ih (k + 1) f (by omega) (by omega) (by rw [show 310 + (k + 1) = 310 + k + 1 by omega]; omega)
      refine ⟨j, ?_, j1, j2, j3⟩
      refine bdk z9I ?_
      rw [hT.2.1, mw_of (by omega) (by omega), if_neg (by omega), mw_n (by omega)]
      refine bdk z9R9 (bdk (z9L9 (by omega) (by omega)) ?_)
      rw [toN, hT.2.2.2.2.1 _ (by omega), if_neg (by rw [show 310 + (k + 1) = 310 + k + 1 by omega]; exact q)]
      exact e
theorem x9_age57 (hn : WFn T) (hk : WFk T) (hT : RefT T I) {y : Int} {k : Nat} (hk2 : (k : Int) + 1 < T 303) (h1 : T (310 + k) ≤ y) (h2 : y ≤ T (310 + k + 1)) : D_X9_ageOf_57 1170 y (k : Int) (st true n c I W p) = some (segA T k y) := by
  unfold WFn at hn
  have a := hk.1 k (by omega)
  have b := hk.1 (k + 1) (by omega)
  have d := hk.2 k hk2
  have sr := seg_rng hk hk2 h1 h2
  have b2 : 310 + (k + 1) = 310 + k + 1 := by omega
  have b3 : 330 + (k + 1) = 330 + k + 1 := by omega
  rw [b2, b3] at b
  unfold D_X9_ageOf_57
  rw [mw_n (by omega)]
  refine bdk z9R9 (bdk (z9L9 (by omega) (by omega)) (bdk z9R9 (bdk (z9L9 (by omega) (by omega)) (bdk z9R10 (bdk (z9L10 (by omega) (by omega)) (bdk z9R10 (bdk (z9L10 (by omega) (by omega)) (bdk z9R10 (bdk (z9L10 (by omega) (by omega)) (bdk z9R9 (bdk (z9L9 (by omega) (by omega)) ?_)))))))))))
  rw [toN, toN, hT.2.2.2.2.1 _ (by omega), hT.2.2.2.2.1 _ (by omega), hT.2.2.2.2.2.1 _ (by omega), hT.2.2.2.2.2.1 _ (by omega), b2, b3]
  rw [mw_of (x := T (330 + k + 1) - T (330 + k)) (by omega) (by omega), mw_of (x := y - T (310 + k)) (by omega) (by omega), mw_of (x := T (310 + k + 1) - T (310 + k)) (by omega) (by omega)]
  have mb : -9989001 ≤ (T (330 + k + 1) - T (330 + k)) * (y - T (310 + k)) ∧ (T (330 + k + 1) - T (330 + k)) * (y - T (310 + k)) ≤ 9989001 := by
    have hy : 0 ≤ y - T (310 + k) ∧ y - T (310 + k) ≤ 999 := by omega
    have hr : -9999 ≤ T (330 + k + 1) - T (330 + k) ∧ T (330 + k + 1) - T (330 + k) ≤ 9999 := by omega
    have u1 : (T (330 + k + 1) - T (330 + k)) * (y - T (310 + k)) ≤ 9999 * (y - T (310 + k)) := Int.mul_le_mul_of_nonneg_right hr.2 hy.1
    have u2 : -9999 * (y - T (310 + k)) ≤ (T (330 + k + 1) - T (330 + k)) * (y - T (310 + k)) := Int.mul_le_mul_of_nonneg_right hr.1 hy.1
    omega
  rw [mw_of (by omega) (by omega)]
  unfold dvO
  rw [if_neg (by omega), Option.bind_some, mdiv_t ⟨by omega, by omega⟩ ⟨by omega, by omega⟩ (by omega)]
  unfold segA at sr ⊢
  rw [mw_of (by omega) (by omega)]
theorem x9_ageOf (hn : WFn T) (hk : WFk T) (hT : RefT T I) {y : Int} (hy : -3000 ≤ y ∧ y ≤ 3000) : D_X9_ageOf 1170 y (st true n c I W p) = some (ageS T y) := by
  have hn' := hn
  unfold WFn at hn'
  unfold D_X9_ageOf
  refine bdk z9R9 (bdk (z9L9 (by decide) (by decide)) ?_)
  rw [show ((0 : Int)).toNat = 0 from rfl, hT.2.2.2.2.1 0 (by decide)]
  by_cases q : y < T 310
  · rw [if_pos q, ageS_out hn hk (Or.inl q)]
    rfl
  · rw [if_neg q]
    refine bdk z9R9 (bdk z9I ?_)
    rw [hT.2.1, mw_of (by omega) (by omega)]
    refine bdk (z9L9 (by omega) (by omega)) ?_
    rw [hT.2.2.2.2.1 _ (by omega), show (T 303 - 1).toNat = nKn T - 1 by unfold nKn; omega]
    by_cases z : y ≤ T (310 + (nKn T - 1))
    · rw [if_pos z]
      obtain ⟨j, e, j1, j2, j3⟩ := x9_age29 (n := n) (c := c) (W := W) (p := p) hn hk hT z (nKn T - 2) 0 mFU (by unfold nKn; omega) (by unfold nKn mFU; omega) (by show T 310 ≤ y; omega)
      refine bdk e ?_
      rw [ageS_at hn hk j1 j2 j3]
      exact x9_age57 hn hk hT j1 j2 j3
    · rw [if_neg z, ageS_out hn hk (Or.inr (by omega))]
      rfl
end RG
