/-! THE PURE PART: stretches of years and the print, asked on both sides -/
section SH
variable {g : Bool} {n : Nat} {c : Nat × Nat × Nat × Nat} {I : Nat → Nat → Int} {W : Nat → Nat → BitVec 64} {p : Nat → Nat} {T : Td}
/-- the years that are left -/
def lft (T : Td) : Nat → Nat → Bool := nS (runS T (-1) (FS T)).1
theorem NowC.row (h : NowC T I W) {s : Nat} (hs : s < nSa T) : RowS (W (188 + 15 + s)) (lft T s) := fun y hy => h.2.1.2.1.1 s hs y hy
theorem x9_laysAsk (hw : WF T) (hT : RefT T I) (hF : RefF T I) (h17 : I 1170 17 = -1) (h19 : I 1170 19 = -1) : ∃ I', D_X9_lays 1170 (st true n c (zJ I) W p) = some (st true n c I' W p) ∧ AskM T I I' ∧ I' 1170 0 = 0 ∧ ∀ s, s < nSa T → ∀ y, y < 1000 → I' (1193 + s) y = bI (lft T s y) := by
  obtain ⟨I1, e1, -, -, h3⟩ := x9_lays (n := n) (c := c) (W := W) (p := p) hw (zJ_T hT) (zJ_F hF) (zJ_ne (by omega)) (zJ_ne (by omega)) (zJ_ne (by omega))
  obtain ⟨I', e, hA⟩ := x9_laysPlain (n := n) (c := c) (W := W) (p := p) hw hT hF h17 h19
  have w : st true n c I1 W p = st true n c I' W p := Option.some.inj (e1.symm.trans e)
  have z1 : I1 1170 0 = 0 := by rw [h3 1170 0 (by unfold PL; omega), zJ0]
  have q1 := z9I (n := n) (c := c) (I := I1) (W := W) (p := p) (k := 0)
  have q2 := z9I (n := n) (c := c) (I := I') (W := W) (p := p) (k := 0)
  rw [w] at q1
  have z2 : I' 1170 0 = I1 1170 0 := Option.some.inj (q2.symm.trans q1)
  refine ⟨I', e, hA, by rw [z2, z1], fun s hs y hy => ?_⟩
  have hN := hA.2.2.1.1
  rw [FP_plain] at hN
  exact hN.2.1.1 s hs y hy
theorem x8_printAsked (hw : WFn T) (hT : ClsT 34 T I) (hN : NowC T I W) : D_X8_print 32 (st g n c I W p) = some (printS (nSa T) (lft T)) := x8_print hw hT (fun _ hs => hN.row hs)
theorem x9_printAsked (hw : WF T) (hT : RefT T I) (hF : RefF T I) (h17 : I 1170 17 = -1) (h19 : I 1170 19 = -1) : ∃ I', D_X9_print 1170 (st true n c I W p) = some (printS (nSa T) (lft T), st true n c I' W p) ∧ AskM T I I' := by
  obtain ⟨I', e, hA, -, hS⟩ := x9_laysAsk (n := n) (c := c) (W := W) (p := p) hw hT hF h17 h19
  refine ⟨I', ?_, hA⟩
  unfold D_X9_print
  exact bdk z9Z (bdk z9T (bdk e (bdk (x9_printN hw.1 hA.1 hS) rfl)))
/-- the first year of a stretch, 1000: none; its first or last -/
def ivV (S : Nat → Bool) (k : Int) : Nat := if 0 ≤ k then ivK S k.toNat else 1000
def ivW (S : Nat → Bool) (v : Nat) (w : Int) : Int := if w = 0 then (v : Int) else ((nx (fun z => !S z) v - 1 : Nat) : Int)
theorem x8_interval {s k w : Int} (hw : WFn T) (hT : ClsT 34 T I) (hN : NowC T I W) (hk : mIn k) : D_X8_interval 32 s k w (st g n c I W p) = if 0 ≤ s ∧ s < T 304 then (if ivV (lft T s.toNat) k < 1000 then (if 0 ≤ w ∧ w ≤ 1 then some (Sum.inl (ivW (lft T s.toNat) (ivV (lft T s.toNat) k) w), st g n c I W p) else some (Sum.inr 1, st g n (xc c) (rI I 1) W p)) else some (Sum.inr 0, st g n (xc c) (rI I 0) W p)) else some (Sum.inr 0, st g n (xc c) (rI I 0) W p) := by
  have hw' := hw
  unfold WFn at hw'
  unfold D_X8_interval
  refine bdk z8T ?_
  rw [needSample_k hT]
  by_cases q : 0 ≤ s ∧ s < T 304
  · rw [if_pos q, if_pos q]
    have hs : s.toNat < nSa T := by unfold nSa; omega
    have s12 : s.toNat < 12 := by omega
    have ha : HC g (188 + 15 + s.toNat) = (52, 16) := n0H15 nb188 s12
    have hR := hN.row hs
    have e1 : D_X7_intervalStart (188 + 15 + s.toNat) k (st g n c I W p) = some ((ivV (lft T s.toNat) k : Nat) : Int) := x7_intervalStart ha hR hk
    generalize hv : ivV (lft T s.toNat) k = v at e1 ⊢
    refine bdk rfl (bdk z8R9 (bdk (n0R3 nb188) (bdk (n0A14 nb188 (by omega) (by omega)) (bdk e1 ?_))))
    by_cases q1 : 1000 ≤ v
    · rw [if_pos (by omega), if_neg (by omega)]
      unfold D_X8_interval_34
      exact bdk z8T (bdk there0 rfl)
    · rw [if_neg (by omega), if_pos (by omega)]
      have hS : lft T s.toNat v = true := by
        unfold ivV at hv
        by_cases k0 : 0 ≤ k
        · rw [if_pos k0] at hv
          have := (ivG_le (S := lft T s.toNat) 1000 0 k.toNat rfl).2
          unfold ivK at hv
          rw [hv] at this
          exact this (by omega)
        · rw [if_neg k0] at hv
          omega
      have eo := r_nextOut (n := n) (c := c) (I := I) (p := p) (g := g) ha hR v
      rw [if_pos (by omega)] at eo
      have b1 : v + 1 ≤ nx (fun z => !lft T s.toNat z) v := by
        rw [nx_out (by show (!lft T s.toNat v) = false; rw [hS]; rfl) (by omega)]
        exact nx_ge _ _
      have b2 := nx_le (p := fun z => !lft T s.toNat z) (i := v) (by omega)
      unfold D_X8_interval_34
      refine bdk z8T (bdk there1 ?_)
      show (if w = 0 then _ else _) = _
      unfold D_X8_interval_47 D_X8_interval_52 ivW
      by_cases c0 : w = 0
      · rw [if_pos c0, if_pos (by omega), if_pos c0]
        refine bdk z8T (bdk need1 ?_)
        show (if w ≠ 0 then _ else _) = _
        rw [if_neg (fun z => z c0)]
        rfl
      · rw [if_neg c0]
        by_cases c1 : w = 1
        · rw [if_neg (fun z => z c1), if_pos (by omega), if_neg c0]
          refine bdk z8T (bdk need1 ?_)
          show (if w ≠ 0 then _ else _) = _
          rw [if_pos c0]
          refine bdk z8R9 (bdk (n0R3 nb188) (bdk (n0A14 nb188 (by omega) (by omega)) (bdk eo ?_)))
          rw [mw_of (by omega) (by omega)]
          unfold D_X8_interval_80
          rw [show ((nx (fun z => !lft T s.toNat z) v : Nat) : Int) - 1 = ((nx (fun z => !lft T s.toNat z) v - 1 : Nat) : Int) by omega]
        · rw [if_pos c1, if_neg (by omega)]
          exact bdk z8T (bdk need0 rfl)
  · rw [if_neg q, if_neg q]
    exact bdk rfl rfl
end SH
