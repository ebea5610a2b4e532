/-! THE PURE PART: what is so between two calls; text, on both sides, whole -/
/-- what is so between two calls -/
def Inv (xs : Nat → Int32) (s : Sp) (I : Nat → Nat → Int) (W : Nat → Nat → BitVec 64) (p : Nat → Nat) : Prop := IC s I W p ∧ IM s I ∧ ∀ k, I 1 k = (xs k).toInt
/-- both sides' call, one behind the other -/
def Both (n : Nat) (xs : Nat → Int32) (D8 : mS → Option ((Int ⊕ Nat) × mS)) (D9 : mS → Option (Int × mS)) (cm : Nat → Int) (c : Nat × Nat × Nat × Nat) (I : Nat → Nat → Int) (W : Nat → Nat → BitVec 64) (p : Nat → Nat) : Prop :=
  ∃ c1 I1 W1 p1 o, D8 (st true n c I W p) = some (o, st true n c1 I1 W1 p1) ∧ (∀ k, I1 1 k = I 1 k) ∧ cn c c1 ∧
    ∀ W2 : Nat → Nat → BitVec 64, (∀ b, b ≠ 1243 → W2 b = W1 b) → ∃ s' v I2, D9 (st true n c1 I1 W2 p1) = some (v, st true n c1 I2 W2 p1) ∧ Inv xs s' I2 W2 p1 ∧ ((o = Sum.inl v ∧ I2 1170 0 = 0) ∨ ∃ e, o = Sum.inr e ∧ I2 1170 0 = cm e ∧ cm e ≠ 0)
section IV
variable {n : Nat} {xs : Nat → Int32} {s : Sp} {c : Nat × Nat × Nat × Nat} {I : Nat → Nat → Int} {W : Nat → Nat → BitVec 64} {p : Nat → Nat} {cm : Nat → Int}
theorem Inv.m (h : Inv xs s I W p) (k : Nat) : mIn (I 1 k) := by rw [h.2.2 k]; exact oi_in _
theorem both_go {D8 : mS → Option ((Int ⊕ Nat) × mS)} {D9 : mS → Option (Int × mS)} (hA : Agree n D8 D9 cm s) (h : Inv xs s I W p) : Both n xs D8 D9 cm c I W p := by
  obtain ⟨o, s', v, code, h8, h9, hov⟩ := hA
  obtain ⟨h1, h2, h3⟩ := h
  obtain ⟨c1, I1, W1, p1, e8, k1, k2, k3⟩ := h8 c I W p h1
  have m1 : IM s I1 := h2.fr (fun b k q => k2.1 b k (Or.inr q))
  refine ⟨c1, I1, W1, p1, o, e8, fun k => k2.1 1 k (Or.inl rfl), k3, fun W2 hW => ?_⟩
  obtain ⟨I2, e9, k4, k5, k6⟩ := h9 c1 I1 W2 p1 m1
  refine ⟨s', v, I2, e9, ⟨k1.fr (fun b k q => k5 b k q) (fun b q => hW b (by omega)), k4, fun k => ?_⟩, ?_⟩
  · rw [k5 1 k (by omega), k2.1 1 k (Or.inl rfl)]; exact h3 k
  · rcases hov with ⟨x, q1, q2, q3⟩ | ⟨e, q1, q2, q3⟩
    · refine Or.inl ⟨?_, by rw [k6, q2]⟩
      rw [q1, q3]
    · exact Or.inr ⟨e, q1, by rw [k6, q2], q3⟩
theorem t_ref {a : Int} (ha : ¬ (0 ≤ a ∧ a ≤ sL9 s)) : Agree n (D_X8_text 32 a) (D_X9_text 1170 a) cmA s := by
  refine ag_r (e := 1) (q8r (by decide) fun c I W p h => ?_) (v := 0) (code := 1) (q9r (by decide) fun c I W p h => ⟨zJ I, ?_, AskX_zJ h⟩) rfl (by decide)
  · have no : D_X8_text_17 32 a 32 (st true n c I W p) = some (Sum.inr 1, st true n (xc c) (rI I 1) W p) := by
      unfold D_X8_text_17 D_X8_text_18
      exact bdk z8T (bdk need0 rfl)
    unfold D_X8_text
    by_cases q1 : a < 0
    · rw [if_pos q1]; exact no
    rw [if_neg q1]
    refine bdk z8I ?_
    rw [h.k.2.1, if_pos (by omega)]
    exact no
  · unfold D_X9_text
    refine bdk z9Z (bdk z9I ?_)
    rw [zJ_ne (by omega), h.k.2.1]
    refine bdk within_k ?_
    rw [if_neg ha]
    refine bdk z9T (bdk (fine0 (kind := 1) (by decide) (by decide) zJ0) ?_)
    show (if (0 : Int) ≠ 0 then _ else _) = _
    rw [if_neg (by decide)]
theorem Eh_w {B : Nat → Int} {L : Nat} {J : Nat → Nat → Int} (h : Eh B L I J) : (J 1170 42 = 0 → WF (TT J)) ∧ (J 1170 42 ≠ 0 → 0 < J 1170 42) := by
  rcases h with ⟨ns, np, nr, -, z, hD⟩ | ⟨k, pl, -, hm⟩
  · exact ⟨fun _ => hD.2.2.2.1, fun w => absurd z w⟩
  · exact ⟨fun w => absurd w hm.nz, fun _ => by rw [hm.2.1.1]; exact hm.2.1.2⟩
/-- text, on both sides -/
theorem text_go {a : Int} (h : Inv xs s I W p) : Both n xs (D_X8_text 32 a) (D_X9_text 1170 a) cmA c I W p := by
  by_cases ha : 0 ≤ a ∧ a ≤ sL9 s
  · obtain ⟨L, rfl⟩ : ∃ L : Nat, a = (L : Int) := ⟨a.toNat, by omega⟩
    have hL : L ≤ sL9 s := by omega
    obtain ⟨h1, h2, h3⟩ := h
    have hB := h1.1.2.2.2.2
    have h500 : sL9 s ≤ 500 := h1.1.2.2.1
    have hI : ∀ k, k < L → I 109 k = sB9 s k := fun k hk => h1.2.2.2.2.1 k (by omega)
    obtain ⟨J0, a1, a2, a3, -⟩ := m_text (n := n) (d := c) (V := W) (r := p) h2 hL
    obtain ⟨I', J', b1, -, b3, -, b5⟩ := t_read (n := n) (c := c) (d := c) (W := W) (V := W) (p := p) (r := p) hB (by omega) hI a1 a2 a3
    obtain ⟨I1, W1, d1, -, d3⟩ := c_text (n := n) (c := c) h1 hL b1 b3 b5
    refine ⟨c, I1, W1, p, _, d1, fun k => d3.1 1 k (Or.inl rfl), cn0, fun W2 hW => ?_⟩
    have m1 : IM s I1 := h2.fr (fun b k q => d3.1 b k (Or.inr q))
    obtain ⟨J0b, a1', a2', a3', aK⟩ := m_text (n := n) (d := c) (V := W2) (r := p) m1 hL
    obtain ⟨Ib, Jb, g1, g2, g3, g4, g5⟩ := t_read (n := n) (c := c) (d := c) (W := W) (V := W2) (p := p) (r := p) hB (by omega) hI a1' a2' a3'
    obtain ⟨I1b, W1b, k1, k2, k3⟩ := c_text (n := n) (c := c) h1 hL g1 g3 g5
    have ew := Eh_w g5
    obtain ⟨I2, q1, q2, q3, q4⟩ := aK Jb g2 g4 ew.1 ew.2
    have ee := Option.some.inj (d1.symm.trans k1)
    have e1 : (Sum.inl (vTx J') : Int ⊕ Nat) = Sum.inl (vTx Jb) := congrArg Prod.fst ee
    have e2 : I1 = I1b := congrArg (fun σ => σ.2.2.2.1) ee
    have e3 : W1 = W1b := congrArg (fun σ => σ.2.2.2.2.1) ee
    subst e2 e3
    refine ⟨sTx s Jb, vTx Jb, I2, q1, ⟨k2.fr (fun b k q => q3 b k q) (fun b q => hW b (by omega)), q2, fun k => ?_⟩, Or.inl ⟨e1, q4⟩⟩
    rw [q3 1 k (by omega), d3.1 1 k (Or.inl rfl)]
    exact h3 k
  · exact both_go (t_ref ha) h
end IV
