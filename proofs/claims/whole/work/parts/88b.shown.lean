/-! THE PURE PART: stretches of years, asked of the reference -/
section SI
variable {n : Nat} {c : Nat × Nat × Nat × Nat} {I : Nat → Nat → Int} {W : Nat → Nat → BitVec 64} {p : Nat → Nat} {T : Td}
theorem x9_i33 {s v : Nat} {w : Int} {S : Nat → Bool} (s12 : s < 12) (h0 : I 1170 0 = 0) (hS : ∀ y, y < 1000 → I (1193 + s) y = bI (S y)) (hv : v ≤ 1000) (hb : v < 1000 → S v = true) :
    D_X9_interval_33 1170 (s : Int) w (if v = 1000 then -1 else (v : Int)) (st true n c I W p) = if v < 1000 then (if 0 ≤ w ∧ w ≤ 1 then some (ivW S v w, st true n c I W p) else some (0, st true n c (rJ I 2 1) W p)) else some (0, st true n c (rJ I 1 0) W p) := by
  unfold D_X9_interval_33
  by_cases q : v < 1000
  · rw [if_neg (show ¬ v = 1000 by omega), if_neg (by omega), if_pos q]
    unfold D_X9_interval_47
    refine bdk z9T (bdk (fine1 h0) ?_)
    show (if (1 : Int) = 0 then _ else _) = _
    rw [if_neg (by decide)]
    refine bdk within_k (bdk z9T ?_)
    by_cases q2 : 0 ≤ w ∧ w ≤ 1
    · rw [if_pos q2, if_pos q2]
      refine bdk (fine1 h0) ?_
      show (if (1 : Int) ≠ 0 then _ else _) = _
      rw [if_pos (by decide)]
      unfold ivW
      by_cases c0 : w = 0
      · rw [if_neg (fun z => z c0), if_pos c0]
        rfl
      · rw [if_pos c0, if_neg c0]
        exact bdk z9T (bdk (x9_intervalTo s12 hS q (hb q)) rfl)
    · rw [if_neg q2, if_neg q2]
      refine bdk (fine0 (kind := 1) (by decide) (by decide) h0) ?_
      show (if (0 : Int) ≠ 0 then _ else _) = _
      rw [if_neg (by decide)]
      rfl
  · rw [if_pos (show v = 1000 by omega), if_pos rfl, if_neg q]
    unfold D_X9_interval_47
    refine bdk z9T (bdk (fine0 (kind := 0) (by decide) (by decide) h0) ?_)
    show (if (0 : Int) = 0 then _ else _) = _
    rw [if_pos rfl]
    rfl
theorem ivV_at {S : Nat → Bool} {k : Int} : ivV S k ≤ 1000 ∧ (ivV S k < 1000 → S (ivV S k) = true) := by
  unfold ivV
  by_cases q : 0 ≤ k
  · rw [if_pos q]
    exact ivG_le (S := S) 1000 0 k.toNat rfl
  · rw [if_neg q]
    exact ⟨Nat.le_refl _, fun w => by omega⟩
theorem x9_interval {s k w : Int} (hw : WF T) (hT : RefT T I) (hF : RefF T I) (h17 : I 1170 17 = -1) (h19 : I 1170 19 = -1) :
    if 0 ≤ s ∧ s < T 304 then ∃ I', AskM T I I' ∧ D_X9_interval 1170 s k w (st true n c I W p) = (if ivV (lft T s.toNat) k < 1000 then (if 0 ≤ w ∧ w ≤ 1 then some (ivW (lft T s.toNat) (ivV (lft T s.toNat) k) w, st true n c I' W p) else some (0, st true n c (rJ I' 2 1) W p)) else some (0, st true n c (rJ I' 1 0) W p))
    else D_X9_interval 1170 s k w (st true n c I W p) = some (0, st true n c (rJ (zJ I) 1 0) W p) := by
  have hw' := hw.1
  unfold WFn at hw'
  by_cases q : 0 ≤ s ∧ s < T 304
  · rw [if_pos q]
    obtain ⟨I', e, hA, h0, hS⟩ := x9_laysAsk (n := n) (c := c) (W := W) (p := p) hw hT hF h17 h19
    refine ⟨I', hA, ?_⟩
    obtain ⟨s, rfl⟩ := Int.eq_ofNat_of_zero_le q.1
    have hs : s < nSa T := by unfold nSa; omega
    have s12 : s < 12 := by omega
    rw [toN]
    have hv := ivV_at (S := lft T s) (k := k)
    have h33 := x9_i33 (n := n) (c := c) (W := W) (p := p) (w := w) s12 h0 (hS s hs) hv.1 hv.2
    rw [← h33]
    unfold D_X9_interval
    refine bdk z9Z (bdk z9T ?_)
    rw [isSample_k hw.1 (zJ_T hT) zJ0, if_pos q]
    refine bdk rfl ?_
    show (if (1 : Int) ≠ 0 then _ else _) = _
    rw [if_pos (by decide)]
    refine bdk z9T (bdk e ?_)
    by_cases k0 : 0 ≤ k
    · rw [if_pos k0]
      refine bdk z9T (bdk (x9_intervalFrom s12 (hS s hs) k0) ?_)
      have : ivV (lft T s) k = ivK (lft T s) k.toNat := if_pos k0
      rw [this]
    · rw [if_neg k0]
      have : ivV (lft T s) k = 1000 := if_neg k0
      rw [this, if_pos rfl]
  · rw [if_neg q]
    unfold D_X9_interval
    refine bdk z9Z (bdk z9T ?_)
    rw [isSample_k hw.1 (zJ_T hT) zJ0, if_neg q]
    refine bdk rfl ?_
    show (if (0 : Int) ≠ 0 then _ else _) = _
    rw [if_neg (by decide)]
end SI
