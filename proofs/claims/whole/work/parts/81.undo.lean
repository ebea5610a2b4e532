/-! THE PURE PART: what is kept for taking back, on both sides -/
def upU (U : Nat → Td) (us : Nat) (T : Td) : Nat → Td := if us = 12 then (fun k => if k = 11 then T else U (k + 1)) else (fun k => if k = us then T else U k)
def upN (us : Nat) : Nat := if us = 12 then 12 else us + 1
def PermP (p : Nat → Nat) : Prop := (∀ k, k < 12 → ∃ j, j < 12 ∧ p k = 282 + 74 * j) ∧ ∀ k j, k < 12 → j < 12 → p k = p j → k = j
section UN
variable {g : Bool} {n : Nat} {c : Nat × Nat × Nat × Nat} {I : Nat → Nat → Int} {W : Nat → Nat → BitVec 64} {p : Nat → Nat} {T : Td} {U : Nat → Td} {us : Nat}
theorem PermP.tb (h : PermP p) {k : Nat} (hk : k < 12) : TB (p k) ∧ 282 ≤ p k := by
  obtain ⟨j, j1, j2⟩ := h.1 k hk
  rw [j2]
  exact ⟨TBp j1, by omega⟩
theorem x8_ku18 (h : PermP p) : ∀ (d k f : Nat), k + d = 12 → d < f → 1 ≤ k → D_X8_keepForUndo_18 f 32 (k : Nat) (st g n c I W (fun j => if j + 1 < k then p (j + 1) else p j)) = some (st g n c I W (fun j => if j + 1 < 12 then p (j + 1) else p j)) := by
  intro d
  induction d with
  | zero =>
    intro k f hk hf h1
    obtain ⟨f, rfl⟩ : ∃ g, f = g + 1 := ⟨f - 1, by omega⟩
    have e : k = 12 := by omega
    subst e
    exact if_pos (by omega)
  | succ d ih =>
    intro k f hk hf h1
    obtain ⟨f, rfl⟩ : ∃ g, f = g + 1 := ⟨f - 1, by omega⟩
    show (if (12 : Int) ≤ (k : Nat) then _ else _) = _
    rw [if_neg (by omega)]
    refine bdk z8R2 (bdk z8R2 (bdk (s_lRp (by omega) (by omega)) ?_))
    have v : (if ((k : Nat) : Int).toNat + 1 < k then p (((k : Nat) : Int).toNat + 1) else p ((k : Nat) : Int).toNat) = p k := if_neg (by omega)
    show (sR (st g n c I W (fun j => if j + 1 < k then p (j + 1) else p j)) 108 (mw ((k : Int) - 1)) (if ((k : Nat) : Int).toNat + 1 < k then p (((k : Nat) : Int).toNat + 1) else p ((k : Nat) : Int).toNat)).bind _ = _
    rw [v, mw_of (x := (k : Int) - 1) (by omega) (by omega)]
    refine bdk (s_sRp (m := 11) (by omega) (by omega) (tH0 (h.tb (by omega)).1)) ?_
    rw [mw_n (by omega)]
    refine Eq.trans (congrArg (fun q => D_X8_keepForUndo_18 f 32 ((k + 1 : Nat) : Int) (st g n c I W q)) ?_) (ih (k + 1) f (by omega) (by omega) (by omega))
    funext j
    show (if j = ((k : Int) - 1).toNat then p k else if j + 1 < k then p (j + 1) else p j) = if j + 1 < k + 1 then p (j + 1) else p j
    by_cases q : j + 1 = k
    · rw [if_pos (by omega), if_pos (by omega), q]
    · rw [if_neg (by omega)]
      by_cases q2 : j + 1 < k
      · rw [if_pos q2, if_pos (by omega)]
      · rw [if_neg q2, if_neg (by omega)]
theorem x8_ku62 (hw : WF T) (hT : ClsT 34 T I) (h : PermP p) (hu : us < 12) (h3 : I 32 3 = us) (hU : ∀ k, k < us → WF (U k) ∧ ClsT (p k) (U k) I) :
    ∃ I', D_X8_keepForUndo_62 32 (st g n c I W p) = some (st g n c I' W p) ∧ (∀ k, k < us + 1 → ClsT (p k) (if k = us then T else U k) I') ∧ I' 32 3 = ((us + 1 : Nat) : Int) ∧ Fr (fun x k => (282 ≤ x ∧ x < 1170) ∨ (x = 32 ∧ k = 3)) I I' := by
  obtain ⟨tbu, pu⟩ := h.tb hu
  have rng := TB_rng tbu
  obtain ⟨I1, e1, c1, f1⟩ := x5_copy (n := n) (c := c) (I := I) (W := W) (p := p) (g := g) tbu TB34 (by omega) hw hT
  have i3 : I1 32 3 = us := by rw [f1 _ _ (by unfold PT; omega)]; exact h3
  have ue : ∀ x k, ¬ (x = 32 ∧ k = 3) → u2 I1 32 3 ((us + 1 : Nat) : Int) x k = I1 x k := fun x k q => by rw [u2_def, if_neg q]
  refine ⟨u2 I1 32 3 ((us + 1 : Nat) : Int), ?_, fun k hk => ?_, by rw [u2_def, if_pos ⟨rfl, rfl⟩], fun x k q => ?_⟩
  · unfold D_X8_keepForUndo_62
    refine bdk z8R2 (bdk z8I ?_)
    rw [h3]
    refine bdk (s_lRp (by omega) (by omega)) (bdk z8R1 (bdk (t5T tbu) (bdk e1 (bdk z8I ?_))))
    rw [i3, mw_n (by omega)]
    exact bdk z8P rfl
  · by_cases q : k = us
    · subst q
      rw [if_pos rfl]
      exact c1.fr (P := fun x k => x = 32 ∧ k = 3) hw.1 ue (fun x k q => by omega)
    · rw [if_neg q]
      obtain ⟨w1, w2⟩ := hU k (by omega)
      obtain ⟨tbk, pk⟩ := h.tb (k := k) (by omega)
      have dj := TB_disj tbu tbk (fun w => q (h.2 us k hu (by omega) w).symm)
      refine (w2.fr (P := fun x _ => PT (p us) x) w1.1 f1 (fun x k q => by unfold PT at q; omega)).fr (P := fun x k => x = 32 ∧ k = 3) w1.1 ue (fun x k q => by omega)
  · rw [ue x k (fun w => q (Or.inr w)), f1 x k (fun w => q (Or.inl (by unfold PT at w; omega)))]
theorem x8_keepForUndo (hw : WF T) (hT : ClsT 34 T I) (h : PermP p) (hu : us ≤ 12) (h3 : I 32 3 = us) (hU : ∀ k, k < us → WF (U k) ∧ ClsT (p k) (U k) I) :
    ∃ I' p', D_X8_keepForUndo 32 (st g n c I W p) = some (st g n c I' W p') ∧ PermP p' ∧ (∀ k, k < upN us → ClsT (p' k) (upU U us T k) I') ∧ I' 32 3 = upN us ∧ Fr (fun x k => (282 ≤ x ∧ x < 1170) ∨ (x = 32 ∧ k = 3)) I I' := by
  unfold D_X8_keepForUndo upN upU
  by_cases q : us = 12
  · subst q
    rw [if_pos rfl]
    have p1 : PermP (fun j => if j = 11 then p 0 else if j + 1 < 12 then p (j + 1) else p j) := by
      refine ⟨fun k hk => ?_, fun k j hk hj e => ?_⟩
      · show ∃ j, j < 12 ∧ (if k = 11 then p 0 else if k + 1 < 12 then p (k + 1) else p k) = 282 + 74 * j
        by_cases q : k = 11
        · rw [if_pos q]; exact h.1 0 (by decide)
        · rw [if_neg q, if_pos (by omega)]; exact h.1 (k + 1) (by omega)
      · have e2 : (if k = 11 then p 0 else if k + 1 < 12 then p (k + 1) else p k) = (if j = 11 then p 0 else if j + 1 < 12 then p (j + 1) else p j) := e
        by_cases q1 : k = 11 <;> by_cases q2 : j = 11
        · omega
        · rw [if_pos q1, if_neg q2, if_pos (by omega)] at e2
          have := h.2 0 (j + 1) (by decide) (by omega) e2
          omega
        · rw [if_neg q1, if_pos q2, if_pos (by omega)] at e2
          have := h.2 (k + 1) 0 (by omega) (by decide) e2
          omega
        · rw [if_neg q1, if_neg q2, if_pos (by omega), if_pos (by omega)] at e2
          have := h.2 (k + 1) (j + 1) (by omega) (by omega) e2
          omega
    have ue : ∀ x k, ¬ (x = 32 ∧ k = 3) → u2 I 32 3 11 x k = I x k := fun x k q => by rw [u2_def, if_neg q]
    obtain ⟨I', e, g1, g2, g3⟩ := x8_ku62 (n := n) (c := c) (W := W) (g := g) (us := 11) (U := fun k => U (k + 1)) hw (hT.fr (P := fun x k => x = 32 ∧ k = 3) hw.1 ue (fun x k q => by omega)) p1 (by decide) (by rw [u2_def, if_pos ⟨rfl, rfl⟩]; rfl) (fun k hk => by
      obtain ⟨w1, w2⟩ := hU (k + 1) (by omega)
      have e : (if k = 11 then p 0 else if k + 1 < 12 then p (k + 1) else p k) = p (k + 1) := by rw [if_neg (by omega), if_pos (by omega)]
      obtain ⟨tbk, pk⟩ := h.tb (k := k + 1) (by omega)
      refine ⟨w1, ?_⟩
      show ClsT (if k = 11 then p 0 else if k + 1 < 12 then p (k + 1) else p k) _ _
      rw [e]
      exact w2.fr (P := fun x k => x = 32 ∧ k = 3) w1.1 ue (fun x k q => by omega))
    refine ⟨I', _, bdk z8I ?_, p1, g1, by rw [g2], fun x k q => by rw [g3 x k q, ue x k (fun w => q (Or.inr w))]⟩
    rw [h3, if_neg (by decide)]
    refine bdk z8R2 (bdk (s_lRp (by decide) (by decide)) ?_)
    have e18 := x8_ku18 (n := n) (c := c) (I := I) (W := W) (g := g) h 11 1 mFU rfl (by decide) (Nat.le_refl 1)
    have ep : (fun j => if j + 1 < 1 then p (j + 1) else p j) = p := by funext j; exact if_neg (by omega)
    rw [ep] at e18
    refine bdk e18 (bdk z8R2 (bdk (s_sRp (m := 11) (by decide) (by decide) (tH0 (h.tb (by decide)).1)) (bdk z8I ?_)))
    rw [h3, mw_of (by omega) (by omega)]
    exact bdk z8P e
  · rw [if_neg q]
    obtain ⟨I', e, g1, g2, g3⟩ := x8_ku62 (n := n) (c := c) (W := W) (g := g) (us := us) (U := U) hw hT h (by omega) h3 hU
    refine ⟨I', p, bdk z8I ?_, h, fun k hk => ?_, g2, g3⟩
    · rw [h3, if_pos (by omega)]
      exact e
    · rw [if_neg q]
      exact g1 k hk
end UN
