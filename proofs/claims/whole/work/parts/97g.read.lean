/-! THE PURE PART: a text's lines, on both sides -/
section RR
variable {n : Nat} {c d : Nat × Nat × Nat × Nat} {I J I' J' : Nat → Nat → Int} {W V : Nat → Nat → BitVec 64} {p r : Nat → Nat} {B : Nat → Int} {L q m ns np nr a b j : Nat} {k pl : Int}
/-- the first line -/
theorem t_line1 (hB : ∀ k, 0 ≤ B k ∧ B k < 256) (hL : L ≤ 500) (hi : Ini I J) (h49 : J 1170 49 = 0) (h1 : CX B L a I) (h2 : MX B L a J) :
    ∃ I' J', D_X2_readLine 111 1 (st true n c I W p) = some (st true n c I' W p) ∧ D_X9_oneLine 1170 (st true n d J V r) = some (st true n d J' V r) ∧ Out B L a I J I' J' := by
  obtain ⟨I1, cI, h6, hcl⟩ := c_line (n := n) (c := c) (W := W) (p := p) (x1 := 1) hL h1
  have hjJ : Pos B L (sk B L a) (u2 J 1170 48 0) := ⟨a, rfl, h2.fr (fun x y w => u2_ne _ _ (by omega))⟩
  have h49' : u2 J 1170 48 0 1170 49 = 0 := by rw [u2_ne _ _ (by omega)]; exact h49
  have fJ : Fr PDm J (u2 J 1170 48 0) := fun x y w => u2_ne _ _ (fun t => w (by unfold PDm; omega))
  have hae : a ≤ we B L (sk B L a) := Nat.le_trans sk_ge we_ge
  have eo : ∀ R, ((D_X9_passes 1170 (2 + 6) (st true n d (u2 J 1170 48 0) V r)).bind fun r3 => if r3.1 ≠ 0 then D_X9_oneLine_39 1170 r3.2 else (tgO r3.2 1170 8).bind fun _ => (D_X9_sign 1170 r3.2).bind fun r4 => (gI r4.2 1170 8 39).bind fun v5 => (tgO r4.2 1170 8).bind fun _ => (D_X9_wrong 1170 1 v5 r4.2).bind fun r6 => D_X9_oneLine_397 1170 r6) = R → D_X9_oneLine 1170 (st true n d J V r) = R := by
    intro R hR
    unfold D_X9_oneLine
    refine bdk z9P (bdk z9I ?_)
    rw [h49', if_neg (by decide)]
    exact bdk z9T hR
  cases p6 : pw B L (sk B L a) 6 with
  | true =>
    obtain ⟨J1, e1, c1, hm, h40⟩ := p_yes (n := n) (d := d) (V := V) (r := r) hB hL (by decide) hjJ p6
    have hI : CX B L (we B L (sk B L a)) I1 ∧ D_X2_readLine 111 1 (st true n c I W p) = D_X2_readLine_34 111 1 ((6 : Nat) : Int) (st true n c I1 W p) := by
      rcases hcl with ⟨i, h1', h2', h3', h4', h5'⟩ | ⟨h3', -⟩
      · by_cases z : i = 6
        · subst z
          exact ⟨h4', h5'⟩
        · rw [h3' 6 (by decide) (fun w => z w.symm)] at p6
          exact absurd p6 (by decide)
      · rw [h3' 6 (by decide)] at p6
        exact absurd p6 (by decide)
    have hi2 : Ini I1 (u2 J1 1170 49 1) := by
      obtain ⟨⟨i0, i1, i3, i4, i5, i8, i9⟩, j0, j1, j2, j45, j46⟩ := hi
      refine ⟨⟨?_, ?_, ?_, ?_, ?_, ?_, ?_⟩, ?_, ?_, ?_, ?_, ?_⟩
      · rw [cI _ _ (by omega)]; exact i0
      · rw [cI _ _ (by omega)]; exact i1
      · rw [cI _ _ (by omega)]; exact i3
      · rw [cI _ _ (by omega)]; exact i4
      · rw [cI _ _ (by omega)]; exact i5
      · rw [cI _ _ (by omega)]; exact i8
      · rw [cI _ _ (by omega)]; exact i9
      · rw [u2_ne _ _ (by omega), c1 _ _ (by omega), u2_ne _ _ (by omega)]; exact j0
      · rw [u2_ne _ _ (by omega), c1 _ _ (by omega), u2_ne _ _ (by omega)]; exact j1
      · rw [u2_ne _ _ (by omega), c1 _ _ (by omega), u2_ne _ _ (by omega)]; exact j2
      · rw [u2_ne _ _ (by omega), c1 _ _ (by omega), u2_ne _ _ (by omega)]; exact j45
      · rw [u2_ne _ _ (by omega), c1 _ _ (by omega), u2_ne _ _ (by omega)]; exact j46
    obtain ⟨I', J2, J', a1, a2, a3, a4⟩ := b_curve (n := n) (c := c) (d := d) (W := W) (V := V) (p := p) (r := r) hB hL hi2 (u2_eq ..) hI.1 (hm.fr (fun x y w => u2_ne _ _ (by omega)))
    refine ⟨I', J', hI.2.trans (l34_6 ?_), eo _ (bdk e1 ?_), Fr.trans' cI.pd a4.1, Fr.trans' fJ (Fr.trans' c1.pd (Fr.trans' (fun x y w => u2_ne _ _ (fun t => w (by unfold PDm; omega))) a4.2.1)), a4.2.2.1.mono hae, St.o h2.2⟩
    · unfold D_X2_readCurve
      rw [if_pos (by decide)]
      exact a1
    · show (if (1 : Int) ≠ 0 then _ else _) = _
      rw [if_pos (by decide)]
      unfold D_X9_oneLine_39
      refine bdk z9I ?_
      rw [c1 _ _ (by omega), h49', if_neg (by decide)]
      exact bdk z9P (bdk z9T (bdk a2 a3))
  | false =>
    obtain ⟨K1, e1, c1, -, hm⟩ := p_no (n := n) (d := d) (V := V) (r := r) hB hL (by decide) hjJ p6
    have e2 := m_sign (n := n) (c := d) (W := V) (p := r) hB hL hm.1
    have hm2 : MX B L (sk B L (sk B L a)) (u2 K1 1170 39 (sk B L (sk B L a) : Nat)) := MX.mv hm (sk_le hm.1.2.2.2)
    rw [sk_sk] at e2 hm2
    have hf2 := hm2.wr (k := 1) (pl := (sk B L a : Nat)) (by decide)
    have er : D_X9_oneLine 1170 (st true n d J V r) = some (st true n d (wro (u2 K1 1170 39 (sk B L a : Nat)) 1 (sk B L a : Nat)) V r) := by
      refine eo _ (bdk e1 ((if_neg (fun w => w rfl)).trans (bdk z9T (bdk e2 (bdk z9I (bdk z9T ?_))))))
      rw [hm2.1.2.2.1]
      exact bdk (m_wrong hm2.2) (o397 (m_mustF hf2))
    have fJ2 : Fr PDm J (wro (u2 K1 1170 39 (sk B L a : Nat)) 1 (sk B L a : Nat)) := Fr.trans' fJ (Fr.trans' c1.pd (Fr.trans' (MC.pd (MC.u (by omega))) MC.w.pd))
    have e24 : (CX B L (we B L (sk B L a)) I1 → D_X2_readLine_24 111 (st true n c I1 W p) = some (st true n c (cfl I1 1 (sk B L a : Nat)) W p)) := fun hx => by
      unfold D_X2_readLine_24
      refine bdk y2I (bdk y2T ?_)
      rw [h6]
      exact bdk (c_fail hx.2.2.1) rfl
    rcases hcl with ⟨i, h1', h2', h3', h4', h5'⟩ | ⟨h3', hc, hx⟩
    · have i6 : i ≠ 6 := fun w => by rw [w] at h2'; rw [h2'] at p6; exact absurd p6 (by decide)
      rw [if_neg (by decide), if_neg (by omega)] at h5'
      exact ⟨_, _, h5'.trans (e24 h4'), er, Fr.trans' cI.pd CC.fl.pd, fJ2, Or.inr ⟨1, _, h4'.fl (by decide), hf2⟩, St.o h2.2⟩
    · rcases hx with hx | hx
      · exact ⟨_, _, hc.trans (e24 hx), er, Fr.trans' cI.pd CC.fl.pd, fJ2, Or.inr ⟨1, _, hx.fl (by decide), hf2⟩, St.o h2.2⟩
      · refine ⟨I1, _, hc.trans ?_, er, cI.pd, fJ2, Or.inr ⟨1, _, hx, hf2⟩, St.o h2.2⟩
        unfold D_X2_readLine_24
        exact bdk y2I (bdk y2T (bdk (c_failF hx.nz) rfl))
/-- how a text ends -/
def Eh (B : Nat → Int) (L : Nat) (I J : Nat → Nat → Int) : Prop := (∃ ns np nr, I 111 1 = 0 ∧ J 1170 42 = 0 ∧ DR B ns np nr I J) ∨ Bad B L I J
theorem lp_bad {f f' x2 : Nat} (hf : 0 < f) (hf' : 0 < f') (h : Bad B L I J) : D_X2_read_44 f 111 (x2 : Nat) (st true n c I W p) = some (st true n c I W p) ∧ D_X9_text_118 f' 1170 (st true n d J V r) = some (st true n d J V r) := by
  obtain ⟨f, rfl⟩ : ∃ g, f = g + 1 := ⟨f - 1, by omega⟩
  obtain ⟨f', rfl⟩ : ∃ g, f' = g + 1 := ⟨f' - 1, by omega⟩
  obtain ⟨k, pl, h1, h2⟩ := h
  constructor
  · show (if 500 ≤ (x2 : Int) then _ else _) = _
    by_cases z : 500 ≤ (x2 : Int)
    · rw [if_pos z]
    · rw [if_neg z]
      exact bdk y2I (if_pos h1.nz)
  · exact bdk z9I (if_pos h2.nz)
theorem lp_go (hB : ∀ k, 0 ≤ B k ∧ B k < 256) (hL : L ≤ 500) : ∀ (rem a x2 ns np nr f f' : Nat) (I J : Nat → Nat → Int), L - a ≤ rem → rem + 1 < f → rem + 1 < f' → x2 < a → CX B L a I → MX B L a J → DR B ns np nr I J →
    ∃ I' J', D_X2_read_44 f 111 (x2 : Nat) (st true n c I W p) = some (st true n c I' W p) ∧ D_X9_text_118 f' 1170 (st true n d J V r) = some (st true n d J' V r) ∧ Fr PDc I I' ∧ Fr PDm J J' ∧ Eh B L I' J' := by
  intro rem
  induction rem with
  | zero => ?_
  | succ rem ih => ?_
  all_goals
    intro a x2 ns np nr f f' I J hr hf hf' hx h1 h2 hD
    obtain ⟨f, rfl⟩ : ∃ g, f = g + 1 := ⟨f - 1, by omega⟩
    obtain ⟨f', rfl⟩ : ∃ g, f' = g + 1 := ⟨f' - 1, by omega⟩
    have haL := h1.2.2.2.2
    have ep := c_peek (n := n) (c := c) (W := W) (p := p) hL h1
    have es := m_sign (n := n) (c := d) (W := V) (p := r) hB hL h2.1
    have hc : CX B L (sk B L a) (u2 I 111 5 (sk B L a : Nat)) := CX.mv h1 (sk_le haL)
    have hm : MX B L (sk B L a) (u2 J 1170 39 (sk B L a : Nat)) := MX.mv h2 (sk_le haL)
    have c1 : CC I (u2 I 111 5 (sk B L a : Nat)) := CC.u (by omega)
    have d1 : MC J (u2 J 1170 39 (sk B L a : Nat)) := MC.u (by omega)
    have hD1 := hD.cc c1 d1.pn
    generalize u2 I 111 5 (sk B L a : Nat) = I1 at ep hc c1 hD1
    generalize u2 J 1170 39 (sk B L a : Nat) = J1 at es hm d1 hD1
    have hsg := sk_ge (B := B) (L := L) (i := a)
    have ec : ∀ R, (if pk B L (sk B L a) = -1 then some (st true n c I1 W p) else (tgO (st true n c I1 W p) 111 2).bind fun _ => (D_X2_readLine 111 0 (st true n c I1 W p)).bind fun r3 => (D_X2_read_44 f) 111 ((x2 + 1 : Nat) : Int) r3) = R → D_X2_read_44 (f + 1) 111 (x2 : Nat) (st true n c I W p) = R := by
      intro R hR
      show (if 500 ≤ (x2 : Int) then _ else _) = _
      rw [if_neg (by omega)]
      refine bdk y2I ?_
      rw [h1.2.2.1, if_neg (by decide)]
      refine bdk y2T (bdk ep ?_)
      rw [mw_n (by omega)]
      exact hR
    have em : ∀ R, (if sg B L (sk B L a) ≠ 0 then D_X9_text_143 (D_X9_text_118 f') 1170 (st true n d J1 V r) else if (L : Int) ≤ (sk B L a : Nat) then some (st true n d J1 V r) else D_X9_text_143 (D_X9_text_118 f') 1170 (st true n d J1 V r)) = R → D_X9_text_118 (f' + 1) 1170 (st true n d J V r) = R := by
      intro R hR
      refine bdk z9I ?_
      rw [h2.2, if_neg (by decide)]
      refine bdk z9T (bdk es ?_)
      by_cases z : sg B L (sk B L a) ≠ 0
      · rw [if_pos z] at hR
        exact (if_pos z).trans hR
      · rw [if_neg z] at hR
        refine (if_neg z).trans (bdk z9I (bdk z9I ?_))
        rw [hm.1.2.1, hm.1.2.2.1]
        exact hR
    by_cases z : sk B L a < L
    · have zp : pk B L (sk B L a) ≠ -1 := by rw [pk_at z]; have := hB (sk B L a); omega
      rw [if_neg zp] at ec
      have em' : ∀ R, D_X9_text_143 (D_X9_text_118 f') 1170 (st true n d J1 V r) = R → D_X9_text_118 (f' + 1) 1170 (st true n d J V r) = R := by
        intro R hR
        refine em R ?_
        by_cases z0 : sg B L (sk B L a) ≠ 0
        · rw [if_pos z0]; exact hR
        · rw [if_neg z0, if_neg (by omega)]; exact hR
      first
      | exact absurd z (by omega)
      | obtain ⟨I2, J2, k1, k2, k3, k4, k5, k6⟩ := t_line (n := n) (c := c) (d := d) (W := W) (V := V) (p := p) (r := r) hB hL hD1 hc hm rfl
        rcases k5 with ⟨a', ns', np', nr', g1, g2, g3, g4⟩ | hb
        · obtain ⟨I3, J3, y1, y2, y3, y4, y5⟩ := ih a' (x2 + 1) ns' np' nr' f f' I2 J2 (by omega) (by omega) (by omega) (by omega) g2 g3 g4
          refine ⟨I3, J3, ec _ (bdk y2T (bdk k1 y1)), em' _ ?_, Fr.trans' c1.pd (Fr.trans' k3 y3), Fr.trans' d1.pd (Fr.trans' k4 y4), y5⟩
          unfold D_X9_text_143
          exact bdk z9T (bdk k2 y2)
        · obtain ⟨y1, y2⟩ := lp_bad (n := n) (c := c) (d := d) (W := W) (V := V) (p := p) (r := r) (f := f) (f' := f') (x2 := x2 + 1) (by omega) (by omega) hb
          refine ⟨I2, J2, ec _ (bdk y2T (bdk k1 y1)), em' _ ?_, Fr.trans' c1.pd k3, Fr.trans' d1.pd k4, Or.inr hb⟩
          unfold D_X9_text_143
          exact bdk z9T (bdk k2 y2)
    · refine ⟨I1, J1, ec _ (if_pos (pk_end z)), em _ ?_, c1.pd, d1.pd, Or.inl ⟨ns, np, nr, hc.2.2.1, hm.2, hD1⟩⟩
      have z0 : sg B L (sk B L a) = 0 := if_neg z
      rw [if_neg (fun w => w z0), if_pos (by omega)]
/-- a text read -/
theorem t_read (hB : ∀ k, 0 ≤ B k ∧ B k < 256) (hL : L ≤ 500) (hI : ∀ k, k < L → I 109 k = B k) (hJ : MX B L 0 J) (h49 : J 1170 49 = 0) (hj : J 1173 0 = 1 ∧ J 1173 1 = 0 ∧ J 1173 2 = 0 ∧ J 1170 45 = 0 ∧ J 1170 46 = 0) :
    ∃ I' J', D_X2_read 111 (L : Int) (st true n c I W p) = some (st true n c I' W p) ∧ ((D_X9_oneLine 1170 (st true n d J V r)).bind fun r16 => D_X9_text_118 mFU 1170 r16) = some (st true n d J' V r) ∧ Fr (fun x y => x = 111 ∨ (112 ≤ x ∧ x ≤ 187)) I I' ∧ Fr PDm J J' ∧ Eh B L I' J' := by
  generalize hI0 : u2 (u2 (u2 (u2 (u2 (u2 (u2 (u2 (u2 (u2 (u2 (u2 I 112 0 1) 112 1 0) 112 2 0) 112 3 0) 112 4 0) 112 5 0) 111 1 0) 111 2 (-1)) 111 4 (L : Int)) 111 5 0) 111 8 0) 111 9 0 = I0
  have f0 : Fr (fun x y => x = 111 ∨ (112 ≤ x ∧ x ≤ 187)) I I0 := fun x y w => by
    rw [← hI0]
    rw [u2_ne _ _ (by omega), u2_ne _ _ (by omega), u2_ne _ _ (by omega), u2_ne _ _ (by omega), u2_ne _ _ (by omega), u2_ne _ _ (by omega), u2_ne _ _ (by omega), u2_ne _ _ (by omega), u2_ne _ _ (by omega), u2_ne _ _ (by omega), u2_ne _ _ (by omega), u2_ne _ _ (by omega)]
  have v : ∀ x y, (x = 112 ∧ y < 6) ∨ (x = 111 ∧ (y = 1 ∨ y = 4 ∨ y = 5 ∨ y = 8 ∨ y = 9)) → I0 x y = if x = 112 then (if y = 0 then 1 else 0) else if y = 4 then (L : Int) else 0 := by
    intro x y w
    rw [← hI0]
    simp only [u2_def]
    have : (x = 112 ∧ y = 0) ∨ (x = 112 ∧ y = 1) ∨ (x = 112 ∧ y = 2) ∨ (x = 112 ∧ y = 3) ∨ (x = 112 ∧ y = 4) ∨ (x = 112 ∧ y = 5) ∨ (x = 111 ∧ y = 1) ∨ (x = 111 ∧ y = 4) ∨ (x = 111 ∧ y = 5) ∨ (x = 111 ∧ y = 8) ∨ (x = 111 ∧ y = 9) := by omega
    rcases this with ⟨rfl, rfl⟩ | ⟨rfl, rfl⟩ | ⟨rfl, rfl⟩ | ⟨rfl, rfl⟩ | ⟨rfl, rfl⟩ | ⟨rfl, rfl⟩ | ⟨rfl, rfl⟩ | ⟨rfl, rfl⟩ | ⟨rfl, rfl⟩ | ⟨rfl, rfl⟩ | ⟨rfl, rfl⟩ <;> rfl
  have h1 : CX B L 0 I0 := ⟨fun k hk => by rw [f0 _ _ (by omega)]; exact hI k hk, v _ _ (by omega), v _ _ (by omega), v _ _ (by omega), Nat.zero_le L⟩
  have hi : Ini I0 J := ⟨⟨v _ _ (by omega), v _ _ (by omega), v _ _ (by omega), v _ _ (by omega), v _ _ (by omega), v _ _ (by omega), v _ _ (by omega)⟩, hj⟩
  obtain ⟨I1, J1, e1, e2, f1, f2, hE, -⟩ := t_line1 (n := n) (c := c) (d := d) (W := W) (V := V) (p := p) (r := r) hB hL hi h49 h1 hJ
  have ec : ∀ R, D_X2_read_44 mFU 111 ((0 : Nat) : Int) (st true n c I1 W p) = some R → D_X2_read 111 (L : Int) (st true n c I W p) = some R := by
    intro R hR
    unfold D_X2_read
    refine bdk y2R0 (bdk (t5T TB112) (bdk (x := st true n c (u2 (u2 (u2 (u2 (u2 (u2 I 112 0 1) 112 1 0) 112 2 0) 112 3 0) 112 4 0) 112 5 0) W p) ?_ ?_))
    · unfold D_X5_forget
      exact bdk (t5P TB112) (bdk (t5P TB112) (bdk (t5P TB112) (bdk (t5P TB112) (bdk (t5P TB112) (bdk (t5P TB112) rfl)))))
    · refine bdk y2P (bdk y2P (bdk y2P (bdk y2P (bdk (y2B (Or.inl rfl)) (bdk (y2B (Or.inl rfl)) ?_)))))
      rw [hI0]
      exact bdk y2T (bdk e1 (bdk hR rfl))
  have g1 : Fr (fun x y => x = 111 ∨ (112 ≤ x ∧ x ≤ 187)) I I1 := Fr.trans' f0 (fun x y w => f1 x y (fun t => w (by unfold PDc at t; omega)))
  rcases hE with ⟨a', ns', np', nr', g2, g3, g4, g5⟩ | hb
  · obtain ⟨I3, J3, y1, y2, y3, y4, y5⟩ := lp_go (n := n) (c := c) (d := d) (W := W) (V := V) (p := p) (r := r) hB hL (L - a') a' 0 ns' np' nr' mFU mFU I1 J1 (Nat.le_refl _) (by unfold mFU; omega) (by unfold mFU; omega) (by omega) g3 g4 g5
    exact ⟨I3, J3, ec _ y1, bdk e2 y2, Fr.trans' g1 (fun x y w => y3 x y (fun t => w (by unfold PDc at t; omega))), Fr.trans' f2 y4, y5⟩
  · obtain ⟨y1, y2⟩ := lp_bad (n := n) (c := c) (d := d) (W := W) (V := V) (p := p) (r := r) (f := mFU) (f' := mFU) (x2 := 0) (by unfold mFU; omega) (by unfold mFU; omega) hb
    exact ⟨I1, J1, ec _ y1, bdk e2 y2, g1, f2, Or.inr hb⟩
end RR
