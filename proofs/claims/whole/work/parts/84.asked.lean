/-! THE PURE PART: the short calls that ask, on both sides -/
section AS
variable {g : Bool} {n : Nat} {c : Nat × Nat × Nat × Nat} {I : Nat → Nat → Int} {W : Nat → Nat → BitVec 64} {p : Nat → Nat} {T : Td}
theorem x8_age {y : Int} (hA : AgesC T I) : D_X8_age 32 y (st g n c I W p) = if 0 ≤ y ∧ y < 1000 then some (Sum.inl (ageS T y), st g n c I W p) else some (Sum.inr 0, st g n (xc c) (rI I 0) W p) := by
  unfold D_X8_age
  refine bdk z8T ?_
  rw [needYear_k]
  by_cases q : 0 ≤ y ∧ y < 1000
  · rw [if_pos q, if_pos q]
    refine bdk rfl (bdk z8R0 (bdk (z8L33 q.1 q.2) ?_))
    rw [hA y.toNat (by omega), Int.toNat_of_nonneg q.1]
  · rw [if_neg q, if_neg q]
    exact bdk rfl rfl
/-- the place of the reference's note, made nothing -/
def zJ (I : Nat → Nat → Int) : Nat → Nat → Int := u2 I 1170 0 0
theorem zJ0 : zJ I 1170 0 = 0 := by unfold zJ; rw [u2_def, if_pos ⟨rfl, rfl⟩]
theorem zJ_ne {b k : Nat} (h : ¬ (b = 1170 ∧ k = 0)) : zJ I b k = I b k := by unfold zJ; rw [u2_def, if_neg h]
theorem zJ_T (hT : RefT T I) : RefT T (zJ I) := hT.fr (P := fun b k => b = 1170 ∧ k = 0) (fun b k q => zJ_ne q) (fun b k q => by omega)
theorem z9Z : pI (st true n c I W p) 1170 8 0 0 = some (st true n c (zJ I) W p) := z9P
theorem isYear_k {y : Int} (h0 : I 1170 0 = 0) : D_X9_isYear 1170 y (st true n c I W p) = if 0 ≤ y ∧ y ≤ 999 then some (1, st true n c I W p) else some (0, st true n c (rJ I 1 0) W p) := by
  unfold D_X9_isYear
  refine bdk within_k (bdk z9T ?_)
  by_cases q : 0 ≤ y ∧ y ≤ 999
  · rw [if_pos q, if_pos q]
    exact bdk (fine1 h0) (bdk (x := (1 : Int)) rfl rfl)
  · rw [if_neg q, if_neg q]
    exact bdk (fine0 (kind := 0) (by decide) (by decide) h0) (bdk (x := (0 : Int)) rfl rfl)
theorem x9_age {y : Int} (hn : WFn T) (hk : WFk T) (hT : RefT T I) : D_X9_age 1170 y (st true n c I W p) = if 0 ≤ y ∧ y ≤ 999 then some (ageS T y, st true n c (zJ I) W p) else some (0, st true n c (rJ (zJ I) 1 0) W p) := by
  unfold D_X9_age
  refine bdk z9Z (bdk z9T ?_)
  rw [isYear_k zJ0]
  by_cases q : 0 ≤ y ∧ y ≤ 999
  · rw [if_pos q, if_pos q]
    refine bdk rfl ?_
    show (if (1 : Int) = 0 then _ else _) = _
    rw [if_neg (by decide)]
    exact bdk z9T (bdk (x9_ageOf hn hk (zJ_T hT) (by omega)) rfl)
  · rw [if_neg q, if_neg q]
    refine bdk rfl ?_
    show (if (0 : Int) = 0 then _ else _) = _
    rw [if_pos rfl]
    rfl
/-! knots -/
theorem x8_knot {k w : Int} (hw : WFn T) (hT : ClsT 34 T I) : D_X8_knot 32 k w (st g n c I W p) = if 0 ≤ k ∧ k < T 303 then (if w = 0 ∨ w = 1 then some (Sum.inl (if w = 0 then T (310 + k.toNat) else T (330 + k.toNat)), st g n c I W p) else some (Sum.inr 1, st g n (xc c) (rI I 1) W p)) else some (Sum.inr 0, st g n (xc c) (rI I 0) W p) := by
  unfold WFn at hw
  have no : D_X8_knot_20 32 k w 32 (st g n c I W p) = some (Sum.inr 0, st g n (xc c) (rI I 0) W p) := by
    unfold D_X8_knot_20 D_X8_knot_21
    exact bdk z8T (bdk there0 rfl)
  unfold D_X8_knot
  by_cases q : k < 0
  · rw [if_pos q, if_neg (by omega)]; exact no
  rw [if_neg q]
  refine bdk z8R1 (bdk (t5I TB34) ?_)
  rw [hT.1.2.2.1]
  by_cases q2 : T 303 ≤ k
  · rw [if_pos q2, if_neg (by omega)]; exact no
  rw [if_neg q2, if_pos (by omega)]
  unfold D_X8_knot_21
  refine bdk z8T (bdk there1 ?_)
  have hk := hT.2.1 k.toNat (by unfold nKn; omega)
  show (if w = 0 then _ else _) = _
  by_cases c0 : w = 0
  · rw [if_pos c0, if_pos (Or.inl c0), if_pos c0]
    unfold D_X8_knot_34 D_X8_knot_39
    refine bdk z8T (bdk need1 ?_)
    show (if w ≠ 0 then _ else _) = _
    rw [if_neg (fun v => v c0)]
    refine bdk z8R1 (bdk (t5R6 TB34) (bdk (t5L1 TB34 (by omega) (by omega)) ?_))
    rw [hk.1]
    rfl
  · rw [if_neg c0]
    by_cases c1 : w = 1
    · rw [if_neg (fun v => v c1), if_pos (Or.inr c1), if_neg c0]
      unfold D_X8_knot_34 D_X8_knot_39
      refine bdk z8T (bdk need1 ?_)
      show (if w ≠ 0 then _ else _) = _
      rw [if_pos c0]
      refine bdk z8R1 (bdk (t5R7 TB34) (bdk (t5L2 TB34 (by omega) (by omega)) ?_))
      rw [hk.2]
      rfl
    · rw [if_pos c1, if_neg (fun v => v.elim c0 c1)]
      unfold D_X8_knot_39
      exact bdk z8T (bdk need0 rfl)
theorem x9_knot {k w : Int} (hw : WFn T) (hT : RefT T I) : D_X9_knot 1170 k w (st true n c I W p) = if 0 ≤ k ∧ k < T 303 then (if w = 0 ∨ w = 1 then some (if w = 0 then T (310 + k.toNat) else T (330 + k.toNat), st true n c (zJ I) W p) else some (0, st true n c (rJ (zJ I) 2 1) W p)) else some (0, st true n c (rJ (zJ I) 1 0) W p) := by
  unfold WFn at hw
  have hZ := zJ_T hT
  unfold D_X9_knot
  refine bdk z9Z (bdk z9I ?_)
  rw [hZ.2.1, mw_of (by omega) (by omega)]
  refine bdk within_k (bdk z9T ?_)
  by_cases q : 0 ≤ k ∧ k < T 303
  · rw [if_pos (show 0 ≤ k ∧ k ≤ T 303 - 1 by omega), if_pos q]
    refine bdk (fine1 zJ0) ?_
    show (if (1 : Int) = 0 then _ else _) = _
    rw [if_neg (by decide)]
    refine bdk within_k (bdk z9T ?_)
    by_cases c0 : w = 0 ∨ w = 1
    · rw [if_pos (show 0 ≤ w ∧ w ≤ 1 by omega), if_pos c0]
      refine bdk (fine1 zJ0) ?_
      show (if (1 : Int) ≠ 0 then _ else _) = _
      rw [if_pos (by decide)]
      show (if w ≠ 0 then _ else _) = _
      by_cases c1 : w = 0
      · rw [if_neg (fun v => v c1), if_pos c1]
        refine bdk z9R9 (bdk (z9L9 (by omega) (by omega)) ?_)
        rw [hZ.2.2.2.2.1 k.toNat (by omega)]
        rfl
      · rw [if_pos c1, if_neg c1]
        refine bdk z9R10 (bdk (z9L10 (by omega) (by omega)) ?_)
        rw [hZ.2.2.2.2.2.1 k.toNat (by omega)]
        rfl
    · rw [if_neg (show ¬ (0 ≤ w ∧ w ≤ 1) by omega), if_neg c0]
      refine bdk (fine0 (kind := 1) (by decide) (by decide) zJ0) ?_
      show (if (0 : Int) ≠ 0 then _ else _) = _
      rw [if_neg (by decide)]
      rfl
  · rw [if_neg (show ¬ (0 ≤ k ∧ k ≤ T 303 - 1) by omega), if_neg q]
    refine bdk (fine0 (kind := 0) (by decide) (by decide) zJ0) ?_
    show (if (0 : Int) = 0 then _ else _) = _
    rw [if_pos rfl]
    rfl
/-! faults and refusals -/
theorem x8_fault {fp : Int} (h : I 32 6 = fp) : D_X8_fault 32 (st g n c I W p) = some fp := by
  unfold D_X8_fault
  refine bdk z8I ?_
  rw [h]
theorem x9_fault {fp : Int} (h : I 1170 44 = fp) : D_X9_fault 1170 (st true n c I W p) = some (fp, st true n c (zJ I) W p) := by
  unfold D_X9_fault
  refine bdk z9Z (bdk z9I ?_)
  rw [zJ_ne (by omega), h]
theorem x9_status {k : Int} {rf : Nat → Int} (h : ∀ k, k < 3 → I 1171 k = rf k) : D_X9_status 1170 k (st true n c I W p) = some (if 0 ≤ k ∧ k ≤ 2 then rf k.toNat else -1, st true n c (zJ I) W p) := by
  unfold D_X9_status
  refine bdk z9Z (bdk within_k ?_)
  by_cases q : 0 ≤ k ∧ k ≤ 2
  · rw [if_pos q, if_neg (by decide), if_pos q]
    refine bdk z9R1 (bdk (z9L1 (by omega) (by omega)) ?_)
    rw [zJ_ne (by omega), h _ (by omega)]
    rfl
  · rw [if_neg q, if_pos rfl, if_neg q]
    rfl
end AS
