/-! THE PURE PART: what is told, counted, on both sides -/
section TO
variable {g : Bool} {n : Nat} {c : Nat × Nat × Nat × Nat} {I : Nat → Nat → Int} {W : Nat → Nat → BitVec 64} {p : Nat → Nat} {T : Td}
/-- the answer -/
def toldS (T : Td) (us tn x : Int) : Int :=
  if x = 0 then T 303 else if x = 1 then T 304 else if x = 2 then T 305 else if x = 3 then T 2 else if x = 4 then T 0 else if x = 5 then T 1 else
  if x = 6 then ((runS T (-1) (FS T)).2 : Nat) else if x = 7 then (tot (nSa T) (runS T (-1) (FS T)).1 : Nat) else if x = 8 then (empN (nS (runS T (-1) (FS T)).1) (nSa T) : Nat) else
  if x = 9 then gonN (nG (runS T (-1) (FS T)).1) (nRu T) else if x = 10 then us else tn
theorem x8_told {x us tn : Int} (hw : WFn T) (hT : ClsT 34 T I) (hN : NowC T I W) (h3 : I 32 3 = us) (h5 : I 32 5 = tn) : D_X8_told 32 x (st g n c I W p) = if 0 ≤ x ∧ x ≤ 11 then some (Sum.inl (toldS T us tn x), st g n c I W p) else some (Sum.inr 1, st g n (xc c) (rI I 1) W p) := by
  have no : D_X8_told_15 32 x 32 (st g n c I W p) = some (Sum.inr 1, st g n (xc c) (rI I 1) W p) := by
    unfold D_X8_told_15 D_X8_told_16
    exact bdk z8T (bdk need0 rfl)
  unfold D_X8_told
  by_cases q1 : x < 0
  · rw [if_pos q1, if_neg (by omega)]; exact no
  rw [if_neg q1]
  by_cases q2 : 11 < x
  · rw [if_pos q2, if_neg (by omega)]; exact no
  rw [if_neg q2, if_pos (by omega)]
  unfold D_X8_told_16 toldS
  refine bdk z8T (bdk need1 ?_)
  show (if x = 0 then _ else _) = some (Sum.inl (if x = 0 then _ else _), _)
  by_cases c0 : x = 0
  · rw [if_pos c0, if_pos c0]; refine bdk z8R1 (bdk (t5I TB34) ?_); rw [hT.1.2.2.1]
  rw [if_neg c0, if_neg c0]
  by_cases c1 : x = 1
  · rw [if_pos c1, if_pos c1]; refine bdk z8R1 (bdk (t5I TB34) ?_); rw [hT.1.2.2.2.1]
  rw [if_neg c1, if_neg c1]
  by_cases c2 : x = 2
  · rw [if_pos c2, if_pos c2]; refine bdk z8R1 (bdk (t5I TB34) ?_); rw [hT.1.2.2.2.2.1]
  rw [if_neg c2, if_neg c2]
  by_cases c3 : x = 3
  · rw [if_pos c3, if_pos c3]; refine bdk z8R1 (bdk (t5I TB34) ?_); rw [hT.1.2.2.2.2.2]
  rw [if_neg c3, if_neg c3]
  by_cases c4 : x = 4
  · rw [if_pos c4, if_pos c4]; refine bdk z8R1 (bdk (t5I TB34) ?_); rw [hT.1.1]
  rw [if_neg c4, if_neg c4]
  by_cases c5 : x = 5
  · rw [if_pos c5, if_pos c5]; refine bdk z8R1 (bdk (t5I TB34) ?_); rw [hT.1.2.1]
  rw [if_neg c5, if_neg c5]
  by_cases c6 : x = 6
  · rw [if_pos c6, if_pos c6]; refine bdk z8R9 (bdk (n0I nb188) ?_); rw [hN.2.2]
  rw [if_neg c6, if_neg c6]
  by_cases c7 : x = 7
  · rw [if_pos c7, if_pos c7]; exact bdk z8R9 (bdk (n0T nb188) (bdk (x0_yearsOfAll nb188 hw hN.2.1) rfl))
  rw [if_neg c7, if_neg c7]
  by_cases c8 : x = 8
  · rw [if_pos c8, if_pos c8]; exact bdk z8R9 (bdk (n0T nb188) (bdk (x0_emptySpans nb188 hw hN.2.1) rfl))
  rw [if_neg c8, if_neg c8]
  by_cases c9 : x = 9
  · rw [if_pos c9, if_pos c9]; exact bdk z8R9 (bdk (n0T nb188) (bdk (x0_goneOfAll nb188 hw hN.2.1) rfl))
  rw [if_neg c9, if_neg c9]
  by_cases c10 : x = 10
  · rw [if_pos c10, if_pos c10]; refine bdk z8I ?_; rw [h3]
  rw [if_neg c10, if_neg c10]
  refine bdk z8I ?_
  rw [h5]
/-- what a call that lays plainly leaves -/
def QL (b k : Nat) : Prop := PL b k ∨ (b = 1170 ∧ k = 0)
def AskM (T : Td) (I I' : Nat → Nat → Int) : Prop := RefT T I' ∧ (RefF T I' ∧ I' 1170 0 = 0) ∧ LaidP T (-1) (I' 1170 18) (-1) I' ∧ Fr QL I I'
theorem zJ_found (h : FoundM T I) : FoundM T (zJ I) := fun s hs y hy => by rw [zJ_ne (by omega)]; exact h s hs y hy
theorem zJ_narM {m : Nat} {N : NS} (h : NarM m N I) : NarM m N (zJ I) := by
  obtain ⟨h1, h2, h3, h4, h5⟩ := h
  refine ⟨fun s hs y hy => ?_, fun r hr => ?_, ?_, fun q => ⟨?_, ?_⟩, ?_⟩
  · rw [zJ_ne (by omega)]; exact h1 s hs y hy
  · rw [zJ_ne (by omega)]; exact h2 r hr
  · rw [zJ_ne (by omega)]; exact h3
  · rw [zJ_ne (by omega)]; exact (h4 q).1
  · rw [zJ_ne (by omega)]; exact (h4 q).2
  · rw [zJ_ne (by omega)]; exact h5
theorem zJ_F (h : RefF T I) : RefF T (zJ I) := by
  obtain ⟨h1, h2, h3⟩ := h
  refine ⟨?_, ?_, fun q1 q2 => ?_⟩
  · rw [zJ_ne (by omega)]; exact h1.imp id (fun q => ⟨q.1, zJ_found q.2⟩)
  · rw [zJ_ne (by omega)]; exact h2
  · rw [zJ_ne (by omega)] at q1 q2
    obtain ⟨k1, k2, k3⟩ := h3 q1 q2
    refine ⟨⟨zJ_T k1.1, zJ_narM k1.2.1, k1.2.2⟩, ?_, fun s hs y hy => ?_⟩
    · rw [zJ_ne (by omega)]; exact k2
    · rw [zJ_ne (by omega)]; exact k3 s hs y hy
theorem x9_laysPlain (hw : WF T) (hT : RefT T I) (hF : RefF T I) (h17 : I 1170 17 = -1) (h19 : I 1170 19 = -1) : ∃ I', D_X9_lays 1170 (st true n c (zJ I) W p) = some (st true n c I' W p) ∧ AskM T I I' := by
  obtain ⟨I', e, h1, h2, h3⟩ := x9_lays (n := n) (c := c) (W := W) (p := p) hw (zJ_T hT) (zJ_F hF) (zJ_ne (by omega)) (zJ_ne (by omega)) (zJ_ne (by omega))
  rw [h17, h19] at h1 h2
  have e18 : I 1170 18 = I' 1170 18 := by
    rw [h3 1170 18 (by unfold PL; omega), zJ_ne (by omega)]
  rw [e18] at h1
  refine ⟨I', e, h1.1.1, ⟨RefF_of h1 h2, by rw [h3 1170 0 (by unfold PL; omega), zJ0]⟩, h1, fun b k q => ?_⟩
  unfold QL at q
  rw [h3 b k (fun w => q (Or.inl w)), zJ_ne (fun w => q (Or.inr w))]
theorem x9_told {x us tn : Int} (hw : WF T) (hT : RefT T I) (hF : RefF T I) (h17 : I 1170 17 = -1) (h19 : I 1170 19 = -1) (h5 : I 1170 5 = us) (h37 : I 1170 37 = tn) :
    if 0 ≤ x ∧ x ≤ 11 then ∃ I', D_X9_told 1170 x (st true n c I W p) = some (toldS T us tn x, st true n c I' W p) ∧ AskM T I I' else D_X9_told 1170 x (st true n c I W p) = some (0, st true n c (rJ (zJ I) 1 1) W p) := by
  by_cases q : 0 ≤ x ∧ x ≤ 11
  · rw [if_pos q]
    obtain ⟨I', e, hA⟩ := x9_laysPlain (n := n) (c := c) (W := W) (p := p) hw hT hF h17 h19
    refine ⟨I', ?_, hA⟩
    obtain ⟨hT', -, hL, hf⟩ := hA
    have hN := hL.1
    have h20 := hL.2.1
    rw [FP_plain] at hN h20
    unfold D_X9_told toldS
    refine bdk z9Z (bdk within_k (bdk z9T ?_))
    rw [if_pos q]
    refine bdk (fine1 zJ0) ?_
    show (if (1 : Int) ≠ 0 then _ else _) = _
    rw [if_pos (by decide)]
    refine bdk z9T (bdk e ?_)
    show (if x = 0 then _ else _) = some ((if x = 0 then _ else _), _)
    by_cases c0 : x = 0
    · rw [if_pos c0, if_pos c0]; refine bdk z9I ?_; rw [hT'.2.1]
    rw [if_neg c0, if_neg c0]
    by_cases c1 : x = 1
    · rw [if_pos c1, if_pos c1]; refine bdk z9I ?_; rw [hT'.2.2.1]
    rw [if_neg c1, if_neg c1]
    by_cases c2 : x = 2
    · rw [if_pos c2, if_pos c2]; refine bdk z9I ?_; rw [hT'.2.2.2.1]
    rw [if_neg c2, if_neg c2]
    by_cases c3 : x = 3
    · rw [if_pos c3, if_pos c3]; refine bdk z9R2 (bdk (z9L2 (by decide) (by decide)) ?_); rw [hT'.1 _ (by decide)]; rfl
    rw [if_neg c3, if_neg c3]
    by_cases c4 : x = 4
    · rw [if_pos c4, if_pos c4]; refine bdk z9R2 (bdk (z9L2 (by decide) (by decide)) ?_); rw [hT'.1 _ (by decide)]; rfl
    rw [if_neg c4, if_neg c4]
    by_cases c5 : x = 5
    · rw [if_pos c5, if_pos c5]; refine bdk z9R2 (bdk (z9L2 (by decide) (by decide)) ?_); rw [hT'.1 _ (by decide)]; rfl
    rw [if_neg c5, if_neg c5]
    by_cases c6 : x = 6
    · rw [if_pos c6, if_pos c6]; refine bdk z9I ?_; rw [h20]
    rw [if_neg c6, if_neg c6]
    by_cases c7 : x = 7
    · rw [if_pos c7, if_pos c7]; exact bdk z9T (bdk (x9_yearsAll hw.1 hN) rfl)
    rw [if_neg c7, if_neg c7]
    by_cases c8 : x = 8
    · rw [if_pos c8, if_pos c8]; exact bdk z9T (bdk (x9_empties hw.1 hN) rfl)
    rw [if_neg c8, if_neg c8]
    by_cases c9 : x = 9
    · rw [if_pos c9, if_pos c9]; exact bdk z9T (bdk (x9_goneAll hw.1 hN) rfl)
    rw [if_neg c9, if_neg c9]
    by_cases c10 : x = 10
    · rw [if_pos c10, if_pos c10]; refine bdk z9I ?_; rw [hf 1170 5 (by unfold QL PL; omega), h5]
    rw [if_neg c10, if_neg c10]
    refine bdk z9I ?_
    rw [hf 1170 37 (by unfold QL PL; omega), h37]
  · rw [if_neg q]
    unfold D_X9_told
    refine bdk z9Z (bdk within_k (bdk z9T ?_))
    rw [if_neg q]
    refine bdk (fine0 (kind := 1) (by decide) (by decide) zJ0) ?_
    show (if (0 : Int) ≠ 0 then _ else _) = _
    rw [if_neg (by decide)]
end TO
