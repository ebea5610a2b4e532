/-! THE PURE PART: one rule, on both sides -/
section RD
variable {g : Bool} {n : Nat} {c : Nat × Nat × Nat × Nat} {I : Nat → Nat → Int} {W : Nat → Nat → BitVec 64} {p : Nat → Nat} {T : Td}
/-- the answer -/
def ruleS (T : Td) (r w : Int) : Int := if 5 ≤ w then nG (runS T (-1) (FS T)).1 r.toNat else tRu T r.toNat w.toNat
theorem t3of {r k : Nat} (hT : ClsT 34 T I) (hr : r < nRu T) (h24 : r < 24) (hk : k < 5) : gI (st g n c I W p) (34 + 50 + r) 3 k = some (tRu T r k) := by
  rw [t3I TB34 h24, hT.2.2.2.2 r hr k hk]
theorem x8_rule {r w : Int} (hw : WFn T) (hT : ClsT 34 T I) (hN : NowC T I W) : D_X8_rule 32 r w (st g n c I W p) = if 0 ≤ r ∧ r < T 2 then (if 0 ≤ w ∧ w ≤ 5 then some (Sum.inl (ruleS T r w), st g n c I W p) else some (Sum.inr 1, st g n (xc c) (rI I 1) W p)) else some (Sum.inr 0, st g n (xc c) (rI I 0) W p) := by
  have hw' := hw
  unfold WFn at hw'
  have no : D_X8_rule_19 32 r w 32 (st g n c I W p) = some (Sum.inr 1, st g n (xc c) (rI I 1) W p) := by
    unfold D_X8_rule_19 D_X8_rule_20
    exact bdk z8T (bdk need0 rfl)
  unfold D_X8_rule
  refine bdk z8T ?_
  rw [needRule_k hT]
  by_cases q : 0 ≤ r ∧ r < T 2
  · rw [if_pos q, if_pos q]
    refine bdk rfl ?_
    show (if w < 0 then _ else _) = _
    by_cases q1 : w < 0
    · rw [if_pos q1, if_neg (by omega)]; exact no
    rw [if_neg q1]
    by_cases q2 : 5 < w
    · rw [if_pos q2, if_neg (by omega)]; exact no
    rw [if_neg q2, if_pos (by omega)]
    have hr : r.toNat < nRu T := by unfold nRu; omega
    have h24 : r.toNat < 24 := by omega
    unfold D_X8_rule_20
    refine bdk z8T (bdk need1 ?_)
    show (if w = 0 then _ else _) = _
    by_cases c0 : w = 0
    · subst c0
      rw [if_pos rfl]
      exact bdk z8R1 (bdk (t5R10 TB34) (bdk (t5A5 TB34 (by omega) (by omega)) (bdk (t3of hT hr h24 (by decide)) rfl)))
    rw [if_neg c0]
    by_cases c1 : w = 1
    · subst c1
      rw [if_pos rfl]
      exact bdk z8R1 (bdk (t5R10 TB34) (bdk (t5A5 TB34 (by omega) (by omega)) (bdk (t3of hT hr h24 (by decide)) rfl)))
    rw [if_neg c1]
    by_cases c2 : w = 2
    · subst c2
      rw [if_pos rfl]
      exact bdk z8R1 (bdk (t5R10 TB34) (bdk (t5A5 TB34 (by omega) (by omega)) (bdk (t3of hT hr h24 (by decide)) rfl)))
    rw [if_neg c2]
    by_cases c3 : w = 3
    · subst c3
      rw [if_pos rfl]
      exact bdk z8R1 (bdk (t5R10 TB34) (bdk (t5A5 TB34 (by omega) (by omega)) (bdk (t3of hT hr h24 (by decide)) rfl)))
    rw [if_neg c3]
    by_cases c4 : w = 4
    · subst c4
      rw [if_pos rfl]
      exact bdk z8R1 (bdk (t5R10 TB34) (bdk (t5A5 TB34 (by omega) (by omega)) (bdk (t3of hT hr h24 (by decide)) rfl)))
    rw [if_neg c4]
    refine bdk z8R9 (bdk (n0R7 nb188) (bdk (n0L30 nb188 (by omega) (by omega)) ?_))
    rw [hN.2.1.2.1.2.2.1 r.toNat hr]
    unfold ruleS
    rw [if_pos (by omega)]
  · rw [if_neg q, if_neg q]
    exact bdk rfl rfl
theorem isRule_k {r : Int} (hw : WFn T) (hT : RefT T I) (h0 : I 1170 0 = 0) : D_X9_isRule 1170 r (st true n c I W p) = if 0 ≤ r ∧ r < T 2 then some (1, st true n c I W p) else some (0, st true n c (rJ I 1 0) W p) := by
  unfold WFn at hw
  unfold D_X9_isRule
  refine bdk z9R2 (bdk (z9L2 (by decide) (by decide)) ?_)
  rw [hT.1 _ (by decide)]
  show (D_X9_within r 0 (mw (T 2 - 1)) (st true n c I W p)).bind _ = _
  rw [mw_of (by omega) (by omega)]
  refine bdk within_k (bdk z9T ?_)
  by_cases q : 0 ≤ r ∧ r < T 2
  · rw [if_pos (show 0 ≤ r ∧ r ≤ T 2 - 1 by omega), if_pos q]
    exact bdk (fine1 h0) (bdk (x := (1 : Int)) rfl rfl)
  · rw [if_neg (show ¬ (0 ≤ r ∧ r ≤ T 2 - 1) by omega), if_neg q]
    exact bdk (fine0 (kind := 0) (by decide) (by decide) h0) (bdk (x := (0 : Int)) rfl rfl)
theorem x9_rule {r w : Int} (hw : WF T) (hT : RefT T I) (hF : RefF T I) (h17 : I 1170 17 = -1) (h19 : I 1170 19 = -1) :
    if 0 ≤ r ∧ r < T 2 then (if 0 ≤ w ∧ w ≤ 5 then ∃ I', D_X9_rule 1170 r w (st true n c I W p) = some (ruleS T r w, st true n c I' W p) ∧ ((5 ≤ w ∧ AskM T I I') ∨ I' = zJ I) else D_X9_rule 1170 r w (st true n c I W p) = some (0, st true n c (rJ (zJ I) 2 1) W p)) else D_X9_rule 1170 r w (st true n c I W p) = some (0, st true n c (rJ (zJ I) 1 0) W p) := by
  have hw' := hw.1
  unfold WFn at hw'
  have hZ := zJ_T hT
  unfold D_X9_rule
  by_cases q : 0 ≤ r ∧ r < T 2
  · rw [if_pos q]
    by_cases q2 : 0 ≤ w ∧ w ≤ 5
    · rw [if_pos q2]
      by_cases q3 : 5 ≤ w
      · obtain ⟨I', e, hA⟩ := x9_laysPlain (n := n) (c := c) (W := W) (p := p) hw hT hF h17 h19
        refine ⟨I', ?_, Or.inl ⟨q3, hA⟩⟩
        have hN := hA.2.2.1.1
        rw [FP_plain] at hN
        refine bdk z9Z (bdk z9T ?_)
        rw [isRule_k hw.1 hZ zJ0, if_pos q]
        refine bdk rfl ?_
        show (if (1 : Int) = 0 then _ else _) = _
        rw [if_neg (by decide)]
        refine bdk within_k (bdk z9T ?_)
        rw [if_pos q2]
        refine bdk (fine1 zJ0) ?_
        show (if (1 : Int) ≠ 0 then _ else _) = _
        rw [if_pos (by decide), if_pos q3]
        refine bdk z9T (bdk e (bdk z9R25 (bdk (z9L25 (by omega) (by omega)) ?_)))
        rw [hN.2.1.2.1 r.toNat (by omega)]
        unfold ruleS
        rw [if_pos q3]
      · refine ⟨zJ I, ?_, Or.inr rfl⟩
        refine bdk z9Z (bdk z9T ?_)
        rw [isRule_k hw.1 hZ zJ0, if_pos q]
        refine bdk rfl ?_
        show (if (1 : Int) = 0 then _ else _) = _
        rw [if_neg (by decide)]
        refine bdk within_k (bdk z9T ?_)
        rw [if_pos q2]
        refine bdk (fine1 zJ0) ?_
        show (if (1 : Int) ≠ 0 then _ else _) = _
        rw [if_pos (by decide), if_neg q3]
        refine bdk z9T ?_
        unfold D_X9_ruleAt
        have em : mw (mw (3 + mw (5 * r)) + w) = 3 + 5 * r + w := by
          rw [mw_of (x := 5 * r) (by omega) (by omega), mw_of (x := 3 + 5 * r) (by omega) (by omega), mw_of (by omega) (by omega)]
        rw [em]
        refine bdk (bdk z9R2 (bdk (z9L2 (by omega) (by omega)) rfl)) ?_
        rw [hZ.1 _ (by omega)]
        unfold ruleS tRu
        rw [if_neg q3, show (3 + 5 * r + w).toNat = 3 + 5 * r.toNat + w.toNat by omega]
    · rw [if_neg q2]
      refine bdk z9Z (bdk z9T ?_)
      rw [isRule_k hw.1 hZ zJ0, if_pos q]
      refine bdk rfl ?_
      show (if (1 : Int) = 0 then _ else _) = _
      rw [if_neg (by decide)]
      refine bdk within_k (bdk z9T ?_)
      rw [if_neg q2]
      refine bdk (fine0 (kind := 1) (by decide) (by decide) zJ0) ?_
      show (if (0 : Int) ≠ 0 then _ else _) = _
      rw [if_neg (by decide)]
      rfl
  · rw [if_neg q]
    refine bdk z9Z (bdk z9T ?_)
    rw [isRule_k hw.1 hZ zJ0, if_neg q]
    refine bdk rfl ?_
    show (if (0 : Int) = 0 then _ else _) = _
    rw [if_pos rfl]
    rfl
end RD
