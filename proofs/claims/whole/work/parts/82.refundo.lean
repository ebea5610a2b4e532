/-! THE PURE PART: what the reference keeps for taking back -/
section RU
variable {n : Nat} {c : Nat × Nat × Nat × Nat} {I : Nat → Nat → Int} {W : Nat → Nat → BitVec 64} {p : Nat → Nat} {T : Td} {U : Nat → Td} {us : Nat}
theorem x9_lb52 (hu : us < 12) (h5 : I 1170 5 = us) : ∀ (d j f : Nat) (I1 : Nat → Nat → Int), j + d = 303 → d < f → Fr (fun x k => x = 1174 ∧ 303 * us ≤ k ∧ k < 303 * us + 303) I I1 → (∀ i, i < j → I1 1174 (303 * us + i) = I 1172 i) →
    ∃ I', D_X9_laysBack_52 f 1170 (j : Nat) (st true n c I1 W p) = some (st true n c I' W p) ∧ Fr (fun x k => x = 1174 ∧ 303 * us ≤ k ∧ k < 303 * us + 303) I I' ∧ ∀ i, i < 303 → I' 1174 (303 * us + i) = I 1172 i := by
  intro d
  induction d with
  | zero =>
    intro j f I1 hj hf h1 h2
    obtain ⟨f, rfl⟩ : ∃ g, f = g + 1 := ⟨f - 1, by omega⟩
    have e : j = 303 := by omega
    subst e
    exact ⟨I1, if_pos (by omega), h1, h2⟩
  | succ d ih =>
    intro j f I1 hj hf h1 h2
    obtain ⟨f, rfl⟩ : ∃ g, f = g + 1 := ⟨f - 1, by omega⟩
    obtain ⟨I', e, g1, g2⟩ := ih (j + 1) f (u2 I1 1174 (303 * us + j) (I 1172 j)) (by omega) (by omega) (fun x k q => by rw [u2_def, if_neg (by omega)]; exact h1 x k q) (fun i hi => by
      rw [u2_def]
      by_cases q : i = j
      · subst q; exact if_pos ⟨rfl, rfl⟩
      · rw [if_neg (by omega)]; exact h2 i (by omega))
    refine ⟨I', ?_, g1, g2⟩
    show (if (303 : Int) ≤ (j : Nat) then _ else _) = _
    rw [if_neg (by omega)]
    refine bdk z9R4 (bdk z9I (bdk z9R2 (bdk (z9L2 (by omega) (by omega)) ?_)))
    rw [toN, h1 1172 j (by omega), h1 1170 5 (by omega), h5, mw_of (x := 303 * (us : Int)) (by omega) (by omega), mw_of (x := 303 * (us : Int) + (j : Int)) (by omega) (by omega), mw_n (by omega)]
    refine bdk (z9S4 (by omega) (by omega)) ?_
    rw [show (303 * (us : Int) + (j : Int)).toNat = 303 * us + j by omega]
    exact e
theorem x9_lb50 (hu : us < 12) (hT : RefT T I) (h5 : I 1170 5 = us) (hU : ∀ k, k < us → ∀ j, j < 303 → I 1174 (303 * k + j) = U k j) :
    ∃ I', D_X9_laysBack_50 1170 (st true n c I W p) = some (st true n c I' W p) ∧ (∀ k, k < us + 1 → ∀ j, j < 303 → I' 1174 (303 * k + j) = (if k = us then T else U k) j) ∧ I' 1170 5 = ((us + 1 : Nat) : Int) ∧ Fr (fun x k => x = 1174 ∨ (x = 1170 ∧ k = 5)) I I' := by
  obtain ⟨I1, e1, f1, v1⟩ := x9_lb52 (n := n) (c := c) (W := W) (p := p) hu h5 303 0 mFU I rfl (by decide) Fr.rfl' (fun i hi => by omega)
  have i5 : I1 1170 5 = us := by rw [f1 _ _ (by omega)]; exact h5
  refine ⟨u2 I1 1170 5 ((us + 1 : Nat) : Int), ?_, fun k hk j hj => ?_, by rw [u2_def, if_pos ⟨rfl, rfl⟩], fun x k q => ?_⟩
  · unfold D_X9_laysBack_50
    refine bdk e1 (bdk z9I ?_)
    rw [i5, mw_n (by omega)]
    exact bdk z9P rfl
  · rw [u2_def, if_neg (by omega)]
    by_cases q : k = us
    · subst q
      rw [if_pos rfl, v1 j hj]
      exact hT.1 j hj
    · rw [if_neg q, f1 _ _ (by omega)]
      exact hU k (by omega) j hj
  · rw [u2_def, if_neg (fun w => q (Or.inr w)), f1 x k (fun w => q (Or.inl w.1))]
theorem x9_lb11 : ∀ (d j f : Nat) (I1 : Nat → Nat → Int), j + d = 3333 → d < f → Fr (fun x k => x = 1174 ∧ k < j) I I1 → (∀ i, i < j → I1 1174 i = I 1174 (i + 303)) →
    ∃ I', D_X9_laysBack_11 f 1170 (j : Nat) (st true n c I1 W p) = some (st true n c I' W p) ∧ Fr (fun x k => x = 1174 ∧ k < 3333) I I' ∧ ∀ i, i < 3333 → I' 1174 i = I 1174 (i + 303) := by
  intro d
  induction d with
  | zero =>
    intro j f I1 hj hf h1 h2
    obtain ⟨f, rfl⟩ : ∃ g, f = g + 1 := ⟨f - 1, by omega⟩
    have e : j = 3333 := by omega
    subst e
    exact ⟨I1, if_pos (by omega), h1, h2⟩
  | succ d ih =>
    intro j f I1 hj hf h1 h2
    obtain ⟨f, rfl⟩ : ∃ g, f = g + 1 := ⟨f - 1, by omega⟩
    obtain ⟨I', e, g1, g2⟩ := ih (j + 1) f (u2 I1 1174 j (I 1174 (j + 303))) (by omega) (by omega) (fun x k q => by rw [u2_def, if_neg (by omega)]; exact h1 x k (by omega)) (fun i hi => by
      rw [u2_def]
      by_cases q : i = j
      · subst q; exact if_pos ⟨rfl, rfl⟩
      · rw [if_neg (by omega)]; exact h2 i (by omega))
    refine ⟨I', ?_, g1, g2⟩
    show (if (3333 : Int) ≤ (j : Nat) then _ else _) = _
    rw [if_neg (by omega)]
    refine bdk z9R4 (bdk z9R4 ?_)
    rw [mw_of (x := (j : Int) + 303) (by omega) (by omega)]
    refine bdk (z9L4 (by omega) (by omega)) ?_
    rw [show ((j : Int) + 303).toNat = j + 303 by omega, h1 1174 (j + 303) (by omega), mw_n (by omega)]
    exact bdk (z9S4 (by omega) (by omega)) e
theorem x9_laysBack (hu : us ≤ 12) (hT : RefT T I) (h5 : I 1170 5 = us) (hU : ∀ k, k < us → ∀ j, j < 303 → I 1174 (303 * k + j) = U k j) :
    ∃ I', D_X9_laysBack 1170 (st true n c I W p) = some (st true n c I' W p) ∧ (∀ k, k < upN us → ∀ j, j < 303 → I' 1174 (303 * k + j) = upU U us T k j) ∧ I' 1170 5 = upN us ∧ Fr (fun x k => x = 1174 ∨ (x = 1170 ∧ k = 5)) I I' := by
  unfold D_X9_laysBack upN upU
  by_cases q : us = 12
  · subst q
    rw [if_pos rfl]
    obtain ⟨I1, e1, f1, v1⟩ := x9_lb11 (n := n) (c := c) (I := I) (W := W) (p := p) 3333 0 mFU I rfl (by decide) (fun x k _ => rfl) (fun i hi => by omega)
    have i5 : I1 1170 5 = 12 := by rw [f1 _ _ (by omega), h5]; rfl
    have ue : ∀ x k, ¬ (x = 1170 ∧ k = 5) → u2 I1 1170 5 11 x k = I1 x k := fun x k q => by rw [u2_def, if_neg q]
    have fr : Fr (fun x k => x = 1174 ∨ (x = 1170 ∧ k = 5)) I (u2 I1 1170 5 11) := fun x k q => by rw [ue x k (fun w => q (Or.inr w)), f1 x k (fun w => q (Or.inl w.1))]
    obtain ⟨I', e, g1, g2, g3⟩ := x9_lb50 (n := n) (c := c) (W := W) (p := p) (us := 11) (T := T) (U := fun k => U (k + 1)) (by decide) (hT.fr fr (fun b k q => by omega)) (by rw [u2_def, if_pos ⟨rfl, rfl⟩]; rfl) (fun k hk j hj => by
      rw [ue _ _ (by omega), v1 _ (by omega), show 303 * k + j + 303 = 303 * (k + 1) + j by omega]
      exact hU (k + 1) (by omega) j hj)
    refine ⟨I', bdk z9I ?_, g1, by rw [g2], Fr.trans' fr g3⟩
    rw [h5, if_neg (by decide)]
    refine bdk e1 (bdk z9I ?_)
    rw [i5, mw_of (by omega) (by omega)]
    exact bdk z9P e
  · rw [if_neg q]
    obtain ⟨I', e, g1, g2, g3⟩ := x9_lb50 (n := n) (c := c) (W := W) (p := p) (us := us) (T := T) (U := U) (by omega) hT h5 hU
    refine ⟨I', bdk z9I ?_, fun k hk j hj => ?_, g2, g3⟩
    · rw [h5, if_pos (by omega)]
      exact e
    · rw [if_neg q]
      exact g1 k hk j hj
end RU
