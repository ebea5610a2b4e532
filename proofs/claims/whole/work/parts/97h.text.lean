/-! THE PURE PART: text, on both sides -/
/-- what stands behind a text; J: the reference's ints behind its lines -/
def sTx (s : Sp) (J : Nat → Nat → Int) : Sp := if J 1170 42 = 0 then (TT J, sU s, 0, 0, sB9 s, -1, sX s) else (sT s, sU s, sN s, 0, sB9 s, J 1170 43, sX s)
def vTx (J : Nat → Nat → Int) : Int := if J 1170 42 = 0 then J 1170 45 else mw (J 1170 42 - 10)
theorem IC.flt {s : Sp} {I I' : Nat → Nat → Int} {W : Nat → Nat → BitVec 64} {p : Nat → Nat} {x : Int} (h : IC s I W p) (hI : ∀ b k, ¬ (111 ≤ b ∧ b ≤ 187) → ¬ (b = 32 ∧ (k = 5 ∨ k = 6)) → I' b k = I b k) (h5 : I' 32 5 = 0) (h6 : I' 32 6 = x) : IC (sT s, sU s, sN s, 0, sB9 s, x, sX s) I' W p := by
  obtain ⟨hg, ⟨a1, a2, a3⟩, ⟨b1, b2, b3⟩, c1, d1, e1, f1, g1⟩ := h
  have hw := hg.1
  have hn := hw.1
  have hn' := hn
  unfold WFn at hn'
  have fT : ∀ T b, WFn T → 33 ≤ b → (b + 74 ≤ 111 ∨ 188 ≤ b) → ClsT b T I → ClsT b T I' := fun T b hT hb0 hb h => h.fr (P := fun x _ => (111 ≤ x ∧ x ≤ 187) ∨ x = 32) hT (fun x k q => hI x k (by omega) (by omega)) (fun a k q => by omega)
  refine ⟨⟨hg.1, hg.2.1, by show (0 : Nat) ≤ 500; omega, hg.2.2.2.1, hg.2.2.2.2⟩, ⟨fT _ _ hn (by omega) (by omega) a1, fun y hy => by rw [hI _ _ (by omega) (by omega)]; exact a2 y hy, ?_⟩, ⟨b1, b2, fun k hk => ?_⟩, ?_, fun k hk => absurd hk (Nat.not_lt_zero k), fun k hk => by rw [hI _ _ (by omega) (by omega)]; exact e1 k hk, f1, ?_⟩
  · obtain ⟨n1, ⟨m1, ⟨k1, k2, k3, k4, k5, k6⟩, m3⟩, n3⟩ := a3
    refine ⟨n1, ⟨fT _ _ hn (by omega) (by omega) m1, ⟨k1, fun t ht => ?_, fun r hr => ?_, ?_, ?_, ?_⟩, m3⟩, ?_⟩
    · rw [hI _ _ (by omega) (by omega), hI _ _ (by omega) (by omega), hI _ _ (by omega) (by omega)]; exact k2 t ht
    · rw [hI _ _ (by omega) (by omega)]; exact k3 r hr
    · rw [hI _ _ (by omega) (by omega)]; exact k4
    · rw [hI _ _ (by omega) (by omega)]; exact k5
    · rw [hI _ _ (by omega) (by omega)]; exact k6
    · rw [hI _ _ (by omega) (by omega)]; exact n3
  · have k12 : k < 12 := by have := hg.2.1; have hk2 : k < sN s := hk; omega
    obtain ⟨j, j1, j2⟩ := b1 k k12
    exact fT _ _ (hg.2.2.2.1 k hk).1.1 (by omega) (by omega) (b3 k hk)
  · exact ⟨by rw [hI _ _ (by omega) (by omega)]; exact c1.1, h5, h6⟩
  · rcases g1 with g1 | ⟨g1, g2, g3, g4⟩
    · exact Or.inl (by rw [hI _ _ (by omega) (by omega)]; exact g1)
    · exact Or.inr ⟨by rw [hI _ _ (by omega) (by omega)]; exact g1, by rw [hI _ _ (by omega) (by omega)]; exact g2, by rw [hI _ _ (by omega) (by omega)]; exact g3, fun q j hj => by rw [hI _ _ (by omega) (by omega)]; exact g4 q j hj⟩
section TX
variable {n : Nat} {c d : Nat × Nat × Nat × Nat} {I J I' J' : Nat → Nat → Int} {W V : Nat → Nat → BitVec 64} {p r : Nat → Nat} {s : Sp} {L : Nat}
theorem c_text (h : IC s I W p) (hL : L ≤ sL9 s) (er : D_X2_read 111 (L : Int) (st true n c I W p) = some (st true n c I' W p)) (f : Fr (fun x y => x = 111 ∨ (112 ≤ x ∧ x ≤ 187)) I I') (hE : Eh (sB9 s) L I' J') :
    ∃ I1 W1, D_X8_text 32 (L : Int) (st true n c I W p) = some (Sum.inl (vTx J'), st true n c I1 W1 p) ∧ IC (sTx s J') I1 W1 p ∧ HI I I1 W W1 := by
  have fI : ∀ x y, ¬ (111 ≤ x ∧ x ≤ 187) → I' x y = I x y := fun x y w => f x y (by omega)
  have pre : ∀ R, (if I' 111 1 = 0 then
      (pI (st true n c (u2 I' 32 5 0) W p) 32 7 6 ((-1))).bind fun s10 =>
      (gR s10 32 7 1).bind fun v11 =>
      (gR s10 32 7 8).bind fun v12 =>
      (gR s10 v12 2 0).bind fun v13 =>
      (tgO s10 v11 5).bind fun _ =>
      (D_X5_copyFrom v11 v13 s10).bind fun r14 =>
      (gR r14 32 7 1).bind fun v15 =>
      (gR r14 32 7 0).bind fun v16 =>
      (tgO r14 v15 5).bind fun _ =>
      (D_X5_layAges v15 v16 r14).bind fun r17 =>
      (pI r17 32 7 3 0).bind fun s18 =>
      (tgO s18 32 7).bind fun _ =>
      (D_X8_renew 32 s18).bind fun r19 =>
      (gR r19 32 7 1).bind fun v20 =>
      (gI r19 v20 5 3).bind fun v21 =>
      some ((Sum.inl v21 : Int ⊕ Nat), r19)
    else
      (gR (st true n c (u2 I' 32 5 0) W p) 32 7 8).bind fun v22 =>
      (gI (st true n c (u2 I' 32 5 0) W p) v22 2 2).bind fun v23 =>
      (pI (st true n c (u2 I' 32 5 0) W p) 32 7 6 v23).bind fun s24 =>
      (gR s24 32 7 8).bind fun v25 =>
      (gI s24 v25 2 1).bind fun v26 =>
      some (Sum.inl (mw (v26 - 10)), s24)) = R → D_X8_text 32 (L : Int) (st true n c I W p) = R := by
    intro R hR
    unfold D_X8_text
    rw [if_neg (by omega)]
    refine bdk z8I ?_
    rw [h.k.2.1, if_neg (by omega)]
    unfold D_X8_text_18
    refine bdk z8T (bdk need1 (bdk z8R8 (bdk y2T (bdk er (bdk z8P (bdk z8R8 (bdk y2I ?_)))))))
    rw [u2_ne _ _ (by omega)]
    exact hR
  rcases hE with ⟨ns, np, nr, z, zJ', hD⟩ | ⟨k, pl, hc, hm⟩
  · have hW := hD.2.2.2.1
    have hs' : sTx s J' = (TT J', sU s, 0, 0, sB9 s, -1, sX s) := if_pos zJ'
    have hv : vTx J' = TT J' 304 := if_pos zJ'
    rw [hs', hv]
    generalize hI3 : u2 (u2 I' 32 5 0) 32 6 (-1) = I3
    have i3 : ∀ x y, x ≠ 32 → I3 x y = I' x y := fun x y w => by rw [← hI3, u2_ne _ _ (by omega), u2_ne _ _ (by omega)]
    have hT3 : ClsT 112 (TT J') I3 := hD.2.2.1.fr (P := fun x _ => x = 32) hW.1 (fun x y w => i3 x y w) (fun a k w => Or.inl (by omega))
    obtain ⟨I4, e4, t4, f4⟩ := x5_copy (g := true) (n := n) (c := c) (W := W) (p := p) TB34 TB112 (by decide) hW hT3
    obtain ⟨I5, e5, f5, a5⟩ := x5_layAges (g := true) (n := n) (c := c) (W := W) (p := p) TB34 hW t4
    have hT6 : ClsT 34 (TT J') (u2 I5 32 3 0) := t4.fr (P := fun x _ => x = 33 ∨ x = 32) hW.1 (fun x y w => by rw [u2_ne _ _ (by omega), f5 _ _ (by omega)]) (fun a k w => Or.inl (by omega))
    have f6 : ∀ x y, ¬ (32 ≤ x ∧ x ≤ 107) → ¬ (111 ≤ x ∧ x ≤ 187) → u2 I5 32 3 0 x y = I x y := fun x y w1 w2 => by
      rw [u2_ne _ _ (by omega), f5 _ _ (by omega), f4 _ _ (by unfold PT; omega), i3 _ _ (by omega), fI _ _ w2]
    have e32 : ∀ y, y ≠ 3 → u2 I5 32 3 0 32 y = I3 32 y := fun y w => by rw [u2_ne _ _ (by omega), f5 _ _ (by omega), f4 _ _ (by unfold PT; omega)]
    obtain ⟨I7, W7, e7, h7, i7⟩ := q_renew (n := n) (c := c) (I := u2 I5 32 3 0) (W := W) (p := p) (s := (TT J', sU s, 0, 0, sB9 s, -1, sX s)) ⟨⟨hW, Nat.zero_le _, Nat.zero_le _, fun k hk => absurd hk (Nat.not_lt_zero k), h.1.2.2.2.2⟩, ⟨hT6, fun y hy => by rw [u2_ne _ _ (by omega)]; exact a5 y hy⟩, ⟨⟨h.2.2.1.1, h.2.2.1.2.1⟩, fun k hk => absurd hk (Nat.not_lt_zero k)⟩, ⟨u2_eq .., by rw [e32 _ (by decide), ← hI3, u2_ne _ _ (by omega)]; exact u2_eq .., by rw [e32 _ (by decide), ← hI3]; exact u2_eq ..⟩, fun k hk => absurd hk (Nat.not_lt_zero k), fun k hk => by rw [f6 _ _ (by omega) (by omega)]; exact h.2.2.2.2.2.1 k hk, h.c⟩
    refine ⟨I7, W7, pre _ ?_, h7, ⟨fun b k q => ?_, i7.2⟩⟩
    · rw [if_pos z]
      refine bdk z8P ?_
      rw [hI3]
      refine bdk z8R1 (bdk z8R8 (bdk y2R0 (bdk (t5T TB34) (bdk e4 (bdk z8R1 (bdk z8R0 (bdk (t5T TB34) (bdk e5 (bdk z8P (bdk z8T (bdk e7 (bdk z8R1 (bdk (t5I TB34) ?_)))))))))))))
      rw [h7.T.1.2.2.2.1]
    · rw [i7.1 b k q, f6 _ _ (by omega) (by omega)]
  · have z : I' 111 1 ≠ 0 := hc.nz
    have zJ' : J' 1170 42 ≠ 0 := hm.nz
    have hs' : sTx s J' = (sT s, sU s, sN s, 0, sB9 s, J' 1170 43, sX s) := if_neg zJ'
    have hv : vTx J' = mw (J' 1170 42 - 10) := if_neg zJ'
    rw [hs', hv]
    refine ⟨u2 (u2 I' 32 5 0) 32 6 pl, W, pre _ ?_, h.flt (fun b k q1 q2 => by rw [u2_ne _ _ (by omega), u2_ne _ _ (by omega)]; exact fI _ _ q1) (by rw [u2_ne _ _ (by omega)]; exact u2_eq ..) (by rw [hm.2.2]; exact u2_eq ..), ⟨fun b k q => by rw [u2_ne _ _ (by omega), u2_ne _ _ (by omega)]; exact fI _ _ (by omega), fun _ _ => rfl⟩⟩
    rw [if_neg z]
    refine bdk z8R8 (bdk y2I ?_)
    rw [u2_ne _ _ (by omega), hc.2.2.2.1]
    refine bdk z8P (bdk z8R8 (bdk y2I ?_))
    rw [u2_ne _ _ (by omega), u2_ne _ _ (by omega), hc.2.2.1.1, hm.2.1.1]
/-! the reference's -/
theorem m_27 {B : Nat → Int} (hB : ∀ k, 0 ≤ B k ∧ B k < 256) (hL : L ≤ 500) : ∀ (dd i f : Nat) (J : Nat → Nat → Int), i + dd = L → dd < f → (∀ k, k < L → J 1221 k = sb (B k)) →
    ∃ J', D_X9_text_27 f 1170 (L : Nat) (i : Nat) (st true n d J V r) = some (st true n d J' V r) ∧ (∀ k, i ≤ k → k < L → J' 1222 k = sb (B k)) ∧ Fr (fun x y => x = 1222 ∧ i ≤ y) J J' := by
  intro dd
  induction dd with
  | zero =>
    intro i f J hi hf h
    obtain ⟨f, rfl⟩ : ∃ g, f = g + 1 := ⟨f - 1, by omega⟩
    exact ⟨J, if_pos (by omega), fun k h1 h2 => absurd h1 (by omega), Fr.rfl'⟩
  | succ dd ih =>
    intro i f J hi hf h
    obtain ⟨f, rfl⟩ : ∃ g, f = g + 1 := ⟨f - 1, by omega⟩
    obtain ⟨J', e, h1, h2⟩ := ih (i + 1) f (u2 J 1222 i (J 1221 i)) (by omega) (by omega) (fun k hk => by rw [u2_ne _ _ (by omega)]; exact h k hk)
    refine ⟨J', ?_, fun k k1 k2 => ?_, fun x y w => ?_⟩
    · show (if (L : Int) ≤ (i : Nat) then _ else _) = _
      rw [if_neg (by omega)]
      refine bdk z9R30 (bdk z9R29 (bdk (z9L29 (by omega) (by omega)) (bdk (z9S30 ?_ (by omega) (by omega)) ?_)))
      · rw [toN, h i (by omega)]; exact sb_rng (hB i)
      · rw [toN, mw_n (by omega)]
        exact e
    · by_cases q : k = i
      · subst q
        rw [h2 _ _ (by omega)]
        exact (u2_eq ..).trans (h k k2)
      · exact h1 k (by omega) k2
    · rw [h2 _ _ (by omega), u2_ne _ _ (by omega)]
theorem m_87 : ∀ (dd i f : Nat) (J : Nat → Nat → Int), i + dd = 303 → dd < f →
    ∃ J', D_X9_text_87 f 1170 (i : Nat) (st true n d J V r) = some (st true n d J' V r) ∧ (∀ k, i ≤ k → k < 303 → J' 1173 k = 0) ∧ Fr (fun x y => x = 1173 ∧ i ≤ y) J J' := by
  intro dd
  induction dd with
  | zero =>
    intro i f J hi hf
    obtain ⟨f, rfl⟩ : ∃ g, f = g + 1 := ⟨f - 1, by omega⟩
    exact ⟨J, if_pos (by omega), fun k h1 h2 => absurd h1 (by omega), Fr.rfl'⟩
  | succ dd ih =>
    intro i f J hi hf
    obtain ⟨f, rfl⟩ : ∃ g, f = g + 1 := ⟨f - 1, by omega⟩
    obtain ⟨J', e, h1, h2⟩ := ih (i + 1) f (u2 J 1173 i 0) (by omega) (by omega)
    refine ⟨J', ?_, fun k k1 k2 => ?_, fun x y w => ?_⟩
    · show (if 303 ≤ ((i : Nat) : Int) then _ else _) = _
      rw [if_neg (by omega)]
      refine bdk z9R3 (bdk (s3 (by omega)) ?_)
      rw [mw_n (by omega)]
      exact e
    · by_cases q : k = i
      · subst q
        rw [h2 _ _ (by omega)]
        exact u2_eq ..
      · exact h1 k (by omega) k2
    · rw [h2 _ _ (by omega), u2_ne _ _ (by omega)]
theorem m_186 : ∀ (dd i f : Nat) (J : Nat → Nat → Int), i + dd = 303 → dd < f →
    ∃ J', D_X9_text_186 f 1170 (i : Nat) (st true n d J V r) = some (st true n d J' V r) ∧ (∀ k, i ≤ k → k < 303 → J' 1172 k = J 1173 k) ∧ Fr (fun x y => x = 1172 ∧ i ≤ y) J J' := by
  intro dd
  induction dd with
  | zero =>
    intro i f J hi hf
    obtain ⟨f, rfl⟩ : ∃ g, f = g + 1 := ⟨f - 1, by omega⟩
    exact ⟨J, if_pos (by omega), fun k h1 h2 => absurd h1 (by omega), Fr.rfl'⟩
  | succ dd ih =>
    intro i f J hi hf
    obtain ⟨f, rfl⟩ : ∃ g, f = g + 1 := ⟨f - 1, by omega⟩
    obtain ⟨J', e, h1, h2⟩ := ih (i + 1) f (u2 J 1172 i (J 1173 i)) (by omega) (by omega)
    refine ⟨J', ?_, fun k k1 k2 => ?_, fun x y w => ?_⟩
    · show (if 303 ≤ ((i : Nat) : Int) then _ else _) = _
      rw [if_neg (by omega)]
      refine bdk z9R2 (bdk z9R3 (bdk (l3 (by omega)) (bdk (z9S2 (by omega) (by omega)) ?_)))
      rw [toN, mw_n (by omega)]
      exact e
    · by_cases q : k = i
      · subst q
        rw [h2 _ _ (by omega)]
        exact u2_eq ..
      · rw [h1 k (by omega) k2, u2_ne _ _ (by omega)]
    · rw [h2 _ _ (by omega), u2_ne _ _ (by omega)]
theorem m_t36 : ∀ (dd i f : Nat) (J : Nat → Nat → Int), i + dd = 16 → dd < f →
    ∃ J', D_X9_takesOver_36 f 1170 (i : Nat) (st true n d J V r) = some (st true n d J' V r) ∧ (∀ k, i ≤ k → k < 16 → J' 1175 k = J 1224 k ∧ J' 1176 k = J 1225 k) ∧ Fr (fun x y => (x = 1175 ∨ x = 1176) ∧ i ≤ y) J J' := by
  intro dd
  induction dd with
  | zero =>
    intro i f J hi hf
    obtain ⟨f, rfl⟩ : ∃ g, f = g + 1 := ⟨f - 1, by omega⟩
    exact ⟨J, if_pos (by omega), fun k h1 h2 => absurd h1 (by omega), Fr.rfl'⟩
  | succ dd ih =>
    intro i f J hi hf
    obtain ⟨f, rfl⟩ : ∃ g, f = g + 1 := ⟨f - 1, by omega⟩
    obtain ⟨J', e, h1, h2⟩ := ih (i + 1) f (u2 (u2 J 1175 i (J 1224 i)) 1176 i (J 1225 i)) (by omega) (by omega)
    refine ⟨J', ?_, fun k k1 k2 => ?_, fun x y w => ?_⟩
    · show (if 16 ≤ ((i : Nat) : Int) then _ else _) = _
      rw [if_neg (by omega)]
      refine bdk z9R9 (bdk z9R32 (bdk (z9L32 (by omega) (by omega)) (bdk (z9S9 (by omega) (by omega)) (bdk z9R10 (bdk z9R33 (bdk (z9L33 (by omega) (by omega)) (bdk (z9S10 (by omega) (by omega)) ?_)))))))
      rw [toN, u2_ne _ _ (show ¬ (1225 = 1175 ∧ i = i) by omega), mw_n (by omega)]
      exact e
    · by_cases q : k = i
      · subst q
        rw [h2 _ _ (by omega), h2 _ _ (by omega)]
        exact ⟨(u2_ne _ _ (by omega)).trans (u2_eq ..), u2_eq ..⟩
      · have := h1 k (by omega) k2
        rw [this.1, this.2]
        exact ⟨(u2_ne _ _ (by omega)).trans (u2_ne _ _ (by omega)), (u2_ne _ _ (by omega)).trans (u2_ne _ _ (by omega))⟩
    · rw [h2 _ _ (by omega), u2_ne _ _ (by omega), u2_ne _ _ (by omega)]
theorem m_t74 : ∀ (dd i f : Nat) (J : Nat → Nat → Int), i + dd = 4 → dd < f →
    ∃ J', D_X9_takesOver_74 f 1170 (i : Nat) (st true n d J V r) = some (st true n d J' V r) ∧ (∀ k, i ≤ k → k < 4 → J' 1177 k = J 1226 k) ∧ Fr (fun x y => x = 1177 ∧ i ≤ y) J J' := by
  intro dd
  induction dd with
  | zero =>
    intro i f J hi hf
    obtain ⟨f, rfl⟩ : ∃ g, f = g + 1 := ⟨f - 1, by omega⟩
    exact ⟨J, if_pos (by omega), fun k h1 h2 => absurd h1 (by omega), Fr.rfl'⟩
  | succ dd ih =>
    intro i f J hi hf
    obtain ⟨f, rfl⟩ : ∃ g, f = g + 1 := ⟨f - 1, by omega⟩
    obtain ⟨J', e, h1, h2⟩ := ih (i + 1) f (u2 J 1177 i (J 1226 i)) (by omega) (by omega)
    refine ⟨J', ?_, fun k k1 k2 => ?_, fun x y w => ?_⟩
    · show (if 4 ≤ ((i : Nat) : Int) then _ else _) = _
      rw [if_neg (by omega)]
      refine bdk z9R11 (bdk z9R34 (bdk (z9L34 (by omega) (by omega)) (bdk (z9S11 (by omega) (by omega)) ?_)))
      rw [toN, mw_n (by omega)]
      exact e
    · by_cases q : k = i
      · subst q
        rw [h2 _ _ (by omega)]
        exact u2_eq ..
      · rw [h1 k (by omega) k2, u2_ne _ _ (by omega)]
    · rw [h2 _ _ (by omega), u2_ne _ _ (by omega)]
theorem m_t99 : ∀ (dd i f : Nat) (J : Nat → Nat → Int), i + dd = 24 → dd < f →
    ∃ J', D_X9_takesOver_99 f 1170 (i : Nat) (st true n d J V r) = some (st true n d J' V r) ∧ (∀ k, i ≤ k → k < 24 → J' 1178 k = J 1227 k) ∧ Fr (fun x y => x = 1178 ∧ i ≤ y) J J' := by
  intro dd
  induction dd with
  | zero =>
    intro i f J hi hf
    obtain ⟨f, rfl⟩ : ∃ g, f = g + 1 := ⟨f - 1, by omega⟩
    exact ⟨J, if_pos (by omega), fun k h1 h2 => absurd h1 (by omega), Fr.rfl'⟩
  | succ dd ih =>
    intro i f J hi hf
    obtain ⟨f, rfl⟩ : ∃ g, f = g + 1 := ⟨f - 1, by omega⟩
    obtain ⟨J', e, h1, h2⟩ := ih (i + 1) f (u2 J 1178 i (J 1227 i)) (by omega) (by omega)
    refine ⟨J', ?_, fun k k1 k2 => ?_, fun x y w => ?_⟩
    · show (if 24 ≤ ((i : Nat) : Int) then _ else _) = _
      rw [if_neg (by omega)]
      refine bdk z9R12 (bdk z9R35 (bdk (z9L35 (by omega) (by omega)) (bdk (z9S12 (by omega) (by omega)) ?_)))
      rw [toN, mw_n (by omega)]
      exact e
    · by_cases q : k = i
      · subst q
        rw [h2 _ _ (by omega)]
        exact u2_eq ..
      · rw [h1 k (by omega) k2, u2_ne _ _ (by omega)]
    · rw [h2 _ _ (by omega), u2_ne _ _ (by omega)]
def PTx (x y : Nat) : Prop := (x = 1170 ∧ (y = 0 ∨ (37 ≤ y ∧ y ≤ 49))) ∨ x = 1173 ∨ (1222 ≤ x ∧ x ≤ 1228)
theorem m_pre (h : IM s J) (hL : L ≤ sL9 s) : ∃ J0, MX (sB9 s) L 0 J0 ∧ J0 1170 49 = 0 ∧ (J0 1173 0 = 1 ∧ J0 1173 1 = 0 ∧ J0 1173 2 = 0 ∧ J0 1170 45 = 0 ∧ J0 1170 46 = 0) ∧ (J0 1170 37 = 0 ∧ J0 1170 0 = 0 ∧ J0 1170 44 = J 1170 44) ∧ Fr PTx J J0 ∧
    ∀ R, ((D_X9_oneLine 1170 (st true n d J0 V r)).bind fun r16 => (D_X9_text_118 mFU 1170 r16).bind fun r17 => D_X9_text_150 1170 r17) = R → D_X9_text 1170 (L : Int) (st true n d J V r) = R := by
  have hB := h.1.2.2.2.2
  have h500 : sL9 s ≤ 500 := h.1.2.2.1
  obtain ⟨J1, e1, g1, f1⟩ := m_27 (n := n) (d := d) (V := V) (r := r) (L := L) hB (by omega) L 0 mFU (zJ J) (by omega) (by unfold mFU; omega) (fun k hk => by rw [zJ_ne (by omega)]; exact h.2.2.2.2.2.1 k (by omega))
  generalize hJ2 : u2 (u2 (u2 (u2 (u2 (u2 (u2 J1 1170 37 0) 1170 38 (L : Int)) 1170 39 0) 1170 42 0) 1170 49 0) 1170 45 0) 1170 46 0 = J2
  have v2 : ∀ y, (y = 37 ∨ y = 38 ∨ y = 39 ∨ y = 42 ∨ y = 45 ∨ y = 46 ∨ y = 49) → J2 1170 y = if y = 38 then (L : Int) else 0 := by
    intro y hy
    rw [← hJ2]
    simp only [u2_def]
    rcases hy with rfl | rfl | rfl | rfl | rfl | rfl | rfl <;> rfl
  have f2 : ∀ x y, ¬ (x = 1170 ∧ 37 ≤ y ∧ y ≤ 49 ∧ y ≠ 44) → J2 x y = J1 x y := fun x y w => by
    rw [← hJ2, u2_ne _ _ (by omega), u2_ne _ _ (by omega), u2_ne _ _ (by omega), u2_ne _ _ (by omega), u2_ne _ _ (by omega), u2_ne _ _ (by omega), u2_ne _ _ (by omega)]
  obtain ⟨J3, e3, g3, f3⟩ := m_87 (n := n) (d := d) (V := V) (r := r) 303 0 mFU J2 (by omega) (by unfold mFU; omega)
  have f4 : ∀ x y, ¬ (x = 1173) → u2 J3 1173 0 1 x y = J2 x y := fun x y w => by rw [u2_ne _ _ (by omega), f3 _ _ (by omega)]
  have fA : ∀ x y, ¬ PTx x y → u2 J3 1173 0 1 x y = J x y := fun x y w => by
    unfold PTx at w
    rw [f4 _ _ (by omega), f2 _ _ (by omega), f1 _ _ (by omega), zJ_ne (by omega)]
  refine ⟨u2 J3 1173 0 1, ⟨⟨fun k hk => ?_, ?_, ?_, Nat.zero_le L⟩, ?_⟩, ?_, ⟨u2_eq .., ?_, ?_, ?_, ?_⟩, ⟨?_, ?_, ?_⟩, fA, fun R hR => ?_⟩
  · rw [f4 _ _ (by omega), f2 _ _ (by omega)]; exact g1 k (Nat.zero_le k) hk
  · rw [f4 _ _ (by omega)]; exact v2 38 (by omega)
  · rw [f4 _ _ (by omega)]; exact v2 39 (by omega)
  · rw [f4 _ _ (by omega)]; exact v2 42 (by omega)
  · rw [f4 _ _ (by omega)]; exact v2 49 (by omega)
  · rw [u2_ne _ _ (by omega)]; exact g3 1 (by omega) (by omega)
  · rw [u2_ne _ _ (by omega)]; exact g3 2 (by omega) (by omega)
  · rw [f4 _ _ (by omega)]; exact v2 45 (by omega)
  · rw [f4 _ _ (by omega)]; exact v2 46 (by omega)
  · rw [f4 _ _ (by omega)]; exact v2 37 (by omega)
  · rw [f4 _ _ (by omega), f2 _ _ (by omega), f1 _ _ (by omega)]; exact zJ0
  · rw [f4 _ _ (by omega), f2 _ _ (by omega), f1 _ _ (by omega), zJ_ne (by omega)]
  · unfold D_X9_text
    refine bdk z9Z (bdk z9I ?_)
    rw [zJ_ne (by omega), h.k.2.1]
    refine bdk within_k ?_
    rw [if_pos (by omega)]
    refine bdk z9T (bdk (fine1 zJ0) ?_)
    show (if (1 : Int) ≠ 0 then _ else _) = _
    rw [if_pos (by decide)]
    refine bdk e1 (bdk z9P (bdk z9P (bdk z9P (bdk z9P (bdk z9P (bdk z9P (bdk z9P ?_)))))))
    rw [hJ2]
    exact bdk e3 (bdk z9R3 (bdk (s3 (i := 0) (by decide)) (bdk z9T hR)))
theorem m_text (h : IM s J) (hL : L ≤ sL9 s) : ∃ J0, MX (sB9 s) L 0 J0 ∧ J0 1170 49 = 0 ∧ (J0 1173 0 = 1 ∧ J0 1173 1 = 0 ∧ J0 1173 2 = 0 ∧ J0 1170 45 = 0 ∧ J0 1170 46 = 0) ∧
    ∀ J', ((D_X9_oneLine 1170 (st true n d J0 V r)).bind fun r16 => D_X9_text_118 mFU 1170 r16) = some (st true n d J' V r) → Fr PDm J0 J' → (J' 1170 42 = 0 → WF (TT J')) → (J' 1170 42 ≠ 0 → 0 < J' 1170 42) →
      ∃ I2, D_X9_text 1170 (L : Int) (st true n d J V r) = some (vTx J', st true n d I2 V r) ∧ IM (sTx s J') I2 ∧ LO J I2 ∧ I2 1170 0 = 0 := by
  obtain ⟨J0, a1, a2, a3, ⟨a4, a5, a6⟩, a7, a8⟩ := m_pre (n := n) (d := d) (V := V) (r := r) h hL
  refine ⟨J0, a1, a2, a3, fun J' e fJ hW hP => ?_⟩
  have fJ' : Fr PTx J J' := Fr.trans' a7 (fun x y w => fJ x y (fun t => w (by unfold PDm at t; unfold PTx; omega)))
  have j37 : J' 1170 37 = 0 := by rw [fJ _ _ (by unfold PDm; omega)]; exact a4
  have j0 : J' 1170 0 = 0 := by rw [fJ _ _ (by unfold PDm; omega)]; exact a5
  have e' : ∀ R, D_X9_text_150 1170 (st true n d J' V r) = R → D_X9_text 1170 (L : Int) (st true n d J V r) = R := by
    intro R hR
    obtain ⟨r16, e1, e2⟩ := bd e
    exact a8 R (bdk e1 (bdk e2 hR))
  obtain ⟨hg, b1, b2, b3, b4, b5, b6⟩ := h
  by_cases z : J' 1170 42 = 0
  · have hs' : sTx s J' = (TT J', sU s, 0, 0, sB9 s, -1, sX s) := if_pos z
    have hv : vTx J' = J' 1170 45 := if_pos z
    rw [hs', hv]
    obtain ⟨K1, e1, g1, f1⟩ := m_186 (n := n) (d := d) (V := V) (r := r) 303 0 mFU (u2 J' 1170 44 (-1)) (by omega) (by unfold mFU; omega)
    generalize hK2 : u2 (u2 (u2 (u2 (u2 K1 1170 8 (J' 1170 47)) 1170 16 0) 1170 6 (J' 1170 45)) 1170 7 (J' 1170 46)) 1170 5 0 = K2
    have v2 : ∀ y, (y = 5 ∨ y = 6 ∨ y = 7 ∨ y = 8 ∨ y = 16) → K2 1170 y = if y = 8 then J' 1170 47 else if y = 6 then J' 1170 45 else if y = 7 then J' 1170 46 else 0 := by
      intro y hy
      rw [← hK2]
      simp only [u2_def]
      rcases hy with rfl | rfl | rfl | rfl | rfl <;> rfl
    have f2 : ∀ x y, ¬ (x = 1170 ∧ (y = 5 ∨ y = 6 ∨ y = 7 ∨ y = 8 ∨ y = 16)) → K2 x y = K1 x y := fun x y w => by
      rw [← hK2, u2_ne _ _ (by omega), u2_ne _ _ (by omega), u2_ne _ _ (by omega), u2_ne _ _ (by omega), u2_ne _ _ (by omega)]
    obtain ⟨K3, e3, g3, f3⟩ := m_t36 (n := n) (d := d) (V := V) (r := r) 16 0 mFU K2 (by omega) (by unfold mFU; omega)
    obtain ⟨K4, e4, g4, f4⟩ := m_t74 (n := n) (d := d) (V := V) (r := r) 4 0 mFU K3 (by omega) (by unfold mFU; omega)
    obtain ⟨K5, e5, g5, f5⟩ := m_t99 (n := n) (d := d) (V := V) (r := r) 24 0 mFU K4 (by omega) (by unfold mFU; omega)
    have k1 : ∀ x y, x ≠ 1172 → ¬ (x = 1170 ∧ y = 44) → K1 x y = J' x y := fun x y w1 w2 => by rw [f1 _ _ (by omega), u2_ne _ _ w2]
    have k2 : ∀ x y, x ≠ 1175 → x ≠ 1176 → x ≠ 1177 → x ≠ 1178 → K5 x y = K2 x y := fun x y w1 w2 w3 w4 => by rw [f5 _ _ (by omega), f4 _ _ (by omega), f3 _ _ (by omega)]
    have kk : ∀ x y, ¬ (x = 1170 ∧ (y = 5 ∨ y = 6 ∨ y = 7 ∨ y = 8 ∨ y = 16 ∨ y = 44)) → x ≠ 1172 → x ≠ 1175 → x ≠ 1176 → x ≠ 1177 → x ≠ 1178 → K5 x y = J' x y := fun x y w w1 w2 w3 w4 w5 => by rw [k2 _ _ w2 w3 w4 w5, f2 _ _ (by omega), k1 _ _ w1 (by omega)]
    have q6 : K5 1170 6 = J' 1170 45 := by rw [k2 _ _ (by omega) (by omega) (by omega) (by omega)]; exact v2 6 (by omega)
    refine ⟨K5, e' _ ?_, ⟨⟨hW z, Nat.zero_le _, Nat.zero_le _, fun k hk => absurd hk (Nat.not_lt_zero k), hg.2.2.2.2⟩, ⟨fun j hj => ?_, ?_, q6, ?_, fun k hk => ?_, fun k hk => ?_, fun k hk => ?_, fun k hk => ?_⟩, ⟨Or.inl ?_, ?_, fun w => ?_⟩, fun k hk => absurd hk (Nat.not_lt_zero k), ⟨?_, ?_, ?_, ?_, ?_⟩, fun k hk => absurd hk (Nat.not_lt_zero k), fun k hk => ?_⟩, fun b k q => ?_, ?_⟩
    · unfold D_X9_text_150
      refine bdk z9I ?_
      rw [z, if_pos (by decide)]
      unfold D_X9_text_166
      refine bdk z9P (bdk z9I ?_)
      rw [u2_ne _ _ (by omega), z, if_pos (by decide)]
      refine bdk e1 (bdk z9T (bdk (x := st true n d K5 V r) ?_ (bdk z9I ?_)))
      · unfold D_X9_takesOver
        refine bdk z9I ?_
        rw [k1 _ _ (by omega) (by omega)]
        refine bdk z9P (bdk (z9B (Or.inl rfl)) (bdk z9I ?_))
        rw [u2_ne _ _ (by omega), u2_ne _ _ (by omega), k1 _ _ (by omega) (by omega)]
        refine bdk z9P (bdk z9I ?_)
        rw [u2_ne _ _ (by omega), u2_ne _ _ (by omega), u2_ne _ _ (by omega), k1 _ _ (by omega) (by omega)]
        refine bdk z9P (bdk z9P ?_)
        rw [hK2]
        exact bdk e3 (bdk e4 (bdk e5 rfl))
      · rw [q6]
    · show K5 1172 j = TT J' j
      rw [k2 _ _ (by omega) (by omega) (by omega) (by omega), f2 _ _ (by omega), g1 j (Nat.zero_le j) hj, u2_ne _ _ (by omega), TT_lo hj]
    · show K5 1170 8 = TT J' 303
      rw [k2 _ _ (by omega) (by omega) (by omega) (by omega)]
      exact v2 8 (by omega)
    · show K5 1170 7 = TT J' 305
      rw [k2 _ _ (by omega) (by omega) (by omega) (by omega)]
      exact v2 7 (by omega)
    · show K5 1175 k = TT J' (310 + k)
      rw [f5 _ _ (by omega), f4 _ _ (by omega), (g3 k (Nat.zero_le k) hk).1, f2 _ _ (by omega), k1 _ _ (by omega) (by omega), TT_y hk]
    · show K5 1176 k = TT J' (330 + k)
      rw [f5 _ _ (by omega), f4 _ _ (by omega), (g3 k (Nat.zero_le k) hk).2, f2 _ _ (by omega), k1 _ _ (by omega) (by omega), TT_a hk]
    · show K5 1177 k = TT J' (350 + k)
      rw [f5 _ _ (by omega), g4 k (Nat.zero_le k) hk, f3 _ _ (by omega), f2 _ _ (by omega), k1 _ _ (by omega) (by omega), TT_m hk]
    · show K5 1178 k = TT J' (360 + k)
      rw [g5 k (Nat.zero_le k) hk, f4 _ _ (by omega), f3 _ _ (by omega), f2 _ _ (by omega), k1 _ _ (by omega) (by omega), TT_q hk]
    · rw [k2 _ _ (by omega) (by omega) (by omega) (by omega)]
      exact v2 16 (by omega)
    · rw [kk _ _ (by omega) (by omega) (by omega) (by omega) (by omega) (by omega), fJ' _ _ (by unfold PTx; omega)]
      exact b2.2.1
    · rw [k2 _ _ (by omega) (by omega) (by omega) (by omega), v2 16 (by omega)] at w
      exact absurd (show (0 : Int) = 1 from w) (by decide)
    · show K5 1170 5 = 0
      rw [k2 _ _ (by omega) (by omega) (by omega) (by omega)]
      exact v2 5 (by omega)
    · show K5 1170 37 = 0
      rw [kk _ _ (by omega) (by omega) (by omega) (by omega) (by omega) (by omega)]
      exact j37
    · show K5 1170 44 = -1
      rw [k2 _ _ (by omega) (by omega) (by omega) (by omega), f2 _ _ (by omega), f1 _ _ (by omega)]
      exact u2_eq ..
    · rw [kk _ _ (by omega) (by omega) (by omega) (by omega) (by omega) (by omega), fJ' _ _ (by unfold PTx; omega)]
      exact b4.2.2.2.1
    · rw [kk _ _ (by omega) (by omega) (by omega) (by omega) (by omega) (by omega), fJ' _ _ (by unfold PTx; omega)]
      exact b4.2.2.2.2
    · show K5 1171 k = sX s k
      rw [kk _ _ (by omega) (by omega) (by omega) (by omega) (by omega) (by omega), fJ' _ _ (by unfold PTx; omega)]
      exact b6 k hk
    · rw [kk _ _ (by omega) (by omega) (by omega) (by omega) (by omega) (by omega), fJ' _ _ (by unfold PTx; omega)]
    · rw [kk _ _ (by omega) (by omega) (by omega) (by omega) (by omega) (by omega)]
      exact j0
  · have hp := hP z
    have hs' : sTx s J' = (sT s, sU s, sN s, 0, sB9 s, J' 1170 43, sX s) := if_neg z
    have hv : vTx J' = mw (J' 1170 42 - 10) := if_neg z
    rw [hs', hv]
    have ne : ∀ x y, ¬ PTx x y → u2 J' 1170 44 (J' 1170 43) x y = J x y := fun x y w => by rw [u2_ne _ _ (fun t => w (by unfold PTx; omega)), fJ' _ _ w]
    have fr : Fr PTx J (u2 J' 1170 44 (J' 1170 43)) := ne
    have hn' := hg.1.1
    unfold WFn at hn'
    refine ⟨u2 J' 1170 44 (J' 1170 43), e' _ ?_, ⟨⟨hg.1, hg.2.1, Nat.zero_le _, hg.2.2.2.1, hg.2.2.2.2⟩, b1.fr fr (fun b k q => by unfold PTx at q; omega), b2.fr fr (fun b k q => by unfold PTx at q; unfold PL; omega) (by unfold nSa; omega), fun k hk j hj => by rw [ne _ _ (by unfold PTx; omega)]; exact b3 k hk j hj, ⟨?_, ?_, u2_eq .., ?_, ?_⟩, fun k hk => absurd hk (Nat.not_lt_zero k), fun k hk => by rw [ne _ _ (by unfold PTx; omega)]; exact b6 k hk⟩, fun b k q => ne _ _ (by unfold PTx; omega), ?_⟩
    · unfold D_X9_text_150
      refine bdk z9I ?_
      rw [if_neg (by omega)]
      refine bdk z9I ?_
      unfold D_X9_text_166
      refine bdk z9P (bdk z9I ?_)
      rw [u2_ne _ _ (by omega), if_neg (by omega)]
      refine bdk z9I ?_
      rw [u2_ne _ _ (by omega)]
    · rw [ne _ _ (by unfold PTx; omega)]; exact b4.1
    · show u2 J' 1170 44 (J' 1170 43) 1170 37 = 0
      rw [u2_ne _ _ (by omega)]; exact j37
    · rw [ne _ _ (by unfold PTx; omega)]; exact b4.2.2.2.1
    · rw [ne _ _ (by unfold PTx; omega)]; exact b4.2.2.2.2
    · rw [u2_ne _ _ (by omega)]; exact j0
end TX
