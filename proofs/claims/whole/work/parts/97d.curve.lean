/-! THE PURE PART: the curve's line, on both sides -/
section CV
variable {n : Nat} {c d : Nat × Nat × Nat × Nat} {I J I' J' : Nat → Nat → Int} {W V : Nat → Nat → BitVec 64} {p r : Nat → Nat} {B : Nat → Int} {L q m ns np nr a b : Nat} {k pl : Int} {vs : Nat → Int}
/-- the knots read so far; x: the last year -/
def KnR (k : Nat) (x : Int) (I J : Nat → Nat → Int) : Prop := (∀ i, i < k → (I 113 i = J 1224 i ∧ I 114 i = J 1225 i) ∧ (0 ≤ J 1224 i ∧ J 1224 i ≤ 999) ∧ 0 ≤ J 1225 i ∧ J 1225 i ≤ 9999) ∧ (∀ i, i + 1 < k → J 1224 i < J 1224 (i + 1)) ∧ (0 < k → J 1224 (k - 1) = x) ∧ -1 ≤ x ∧ x ≤ 999
def PCc (x y : Nat) : Prop := (x = 111 ∧ (y = 1 ∨ y = 2 ∨ 5 ≤ y ∧ y ≤ 7)) ∨ (x = 112 ∧ y = 2) ∨ x = 113 ∨ x = 114
def PCm (x y : Nat) : Prop := (x = 1170 ∧ 39 ≤ y ∧ y ≤ 43) ∨ x = 1224 ∨ x = 1225
theorem z9S32' {i : Nat} {x : Int} (h : i < 16) : sI (st true n c I W p) 1224 (i : Int) x = some (st true n c (u2 I 1224 i x) W p) := z9S32 (by omega) (by omega)
theorem z9S33' {i : Nat} {x : Int} (h : i < 16) : sI (st true n c I W p) 1225 (i : Int) x = some (st true n c (u2 I 1225 i x) W p) := z9S33 (by omega) (by omega)
theorem z9L32' {i : Nat} (h : i < 16) : lI (st true n c I W p) 1224 (i : Int) = some (I 1224 i) := z9L32 (by omega) (by omega)
/-- a knot read, on the desk -/
theorem c_75 {f k : Nat} {x2 v v' : Int} {I1 I3 : Nat → Nat → Int} (hk : k < 16) (e1 : D_X2_readNumber 111 (mw (x2 + 1)) 999 (st true n c I W p) = some (v, st true n c I1 W p)) (e2 : D_X2_readNumber 111 0 9999 (st true n c (u2 I1 113 k v) W p) = some (v', st true n c I3 W p)) :
    D_X2_readCurve_75 (D_X2_readCurve_17 f) 111 x2 (k : Nat) (st true n c I W p) = D_X2_readCurve_17 f 111 v ((k + 1 : Nat) : Int) (st true n c (u2 (u2 I3 114 k v') 112 2 ((k + 1 : Nat) : Int)) W p) := by
  unfold D_X2_readCurve_75
  refine bdk y2T (bdk e1 (bdk y2R0 (bdk (t5R6 TB112) (bdk (t5S1 TB112 (by omega) (by omega)) ?_))))
  rw [toN]
  refine bdk y2R0 (bdk (t5R7 TB112) (bdk y2T (bdk e2 (bdk (t5S2 TB112 (by omega) (by omega)) ?_))))
  rw [toN, mw_n (by omega)]
  exact bdk y2R0 (bdk (t5P TB112) rfl)
theorem c_75F {f k : Nat} {x2 kk : Int} (hL : L ≤ 500) (hk : k < 16) (h : CF B L kk pl I) : ∃ I', D_X2_readCurve_75 (D_X2_readCurve_17 (f + 1)) 111 x2 (k : Nat) (st true n c I W p) = some (Sum.inr (Sum.inr (st true n c I' W p))) ∧ CF B L kk pl I' ∧ Fr PCc I I' := by
  have e1 := c_numF (n := n) (c := c) (W := W) (p := p) (lo := mw (x2 + 1)) (hi := 999) hL h
  have h2 : CF B L kk pl (u2 I 113 k 0) := h.fr (fun x y w => u2_ne _ _ (by omega))
  have e2 := c_numF (n := n) (c := c) (W := W) (p := p) (lo := 0) (hi := 9999) hL h2
  have h3 : CF B L kk pl (u2 (u2 (u2 I 113 k 0) 114 k 0) 112 2 ((k + 1 : Nat) : Int)) := h2.fr (fun x y w => by rw [u2_ne _ _ (by omega), u2_ne _ _ (by omega)])
  refine ⟨_, (c_75 hk e1 e2).trans ?_, h3, fun x y w => ?_⟩
  · show (if 16 < ((k + 1 : Nat) : Int) then _ else _) = _
    rw [if_neg (by omega)]
    refine bdk y2I ?_
    rw [if_pos h3.nz]
  · unfold PCc at w
    rw [u2_ne _ _ (by omega), u2_ne _ _ (by omega), u2_ne _ _ (by omega)]
theorem cv_loop (hB : ∀ k, 0 ≤ B k ∧ B k < 256) (hL : L ≤ 500) : ∀ (dd k f f' : Nat) (I J : Nat → Nat → Int) (x2 : Int), k + dd + 1 = 16 → dd + 2 < f → dd + 2 < f' → S2 B L q I J → J 1170 42 = 0 → KnR k x2 I J →
    ∃ I' J' rc rr, D_X2_readCurve_75 (D_X2_readCurve_17 f) 111 x2 (k : Nat) (st true n c I W p) = some rc ∧ D_X9_curve_27 (D_X9_curve_4 f') 1170 (k : Nat) (x2 + 1) 1170 (st true n d J V r) = some rr ∧ Fr PCc I I' ∧ Fr PCm J J' ∧
      ((∃ (k' : Nat) (x : Int), rc = Sum.inl (st true n c I' W p) ∧ rr = Sum.inl ((k' : Int), st true n d J' V r) ∧ (2 ≤ k' ∧ k' ≤ 16) ∧ S2 B L q I' J' ∧ J' 1170 42 = 0 ∧ I' 112 2 = (k' : Nat) ∧ KnR k' x I' J') ∨
       (rc = Sum.inr (Sum.inr (st true n c I' W p)) ∧ rr = Sum.inr (st true n d J' V r) ∧ Bad B L I' J') ∨
       (∃ a : Nat, rc = Sum.inr (Sum.inl (st true n c I' W p)) ∧ rr = Sum.inr (st true n d J' V r) ∧ CX B L a I' ∧ MF B L 3 (a : Nat) J')) := by
  intro dd
  induction dd with
  | zero => ?_
  | succ dd ih => ?_
  all_goals
    intro k f f' I J x2 hk hf hf' hS z hR
    obtain ⟨f, rfl⟩ : ∃ g, f = g + 1 := ⟨f - 1, by omega⟩
    obtain ⟨f', rfl⟩ : ∃ g, f' = g + 1 := ⟨f' - 1, by omega⟩
    have wm : mw (x2 + 1) = x2 + 1 := mw_of (by have := hR.2.2.2; omega) (by have := hR.2.2.2; omega)
    obtain ⟨v, w, I1, J1, a1, a2, a3, a4, a5, a6, a7, -⟩ := t_num (n := n) (c := c) (d := d) (W := W) (V := V) (p := p) (r := r) (l1 := mw (x2 + 1)) (l2 := x2 + 1) (hi := 999) hB hL (by decide) hS (fun _ => wm)
    obtain ⟨v', w', I3, J2, b1, b2, b3, b4, b5, b6, b7, -⟩ := t_num (n := n) (c := c) (d := d) (W := W) (V := V) (p := p) (r := r) (l1 := 0) (l2 := 0) (hi := 9999) hB hL (by decide) (a5.fr (I' := u2 I1 113 k v) (J' := J1) (fun x y z => u2_ne _ _ (by omega)) (fun _ _ _ => rfl)) (fun _ => rfl)
    have ec := c_75 (f := f + 1) (by omega) a1 b1
    generalize hI5 : u2 (u2 I3 114 k v') 112 2 ((k + 1 : Nat) : Int) = I5 at ec
    have i5 : ∀ x y, ¬ (x = 114 ∧ y = k) → ¬ (x = 112 ∧ y = 2) → I5 x y = I3 x y := fun x y q1 q2 => by rw [← hI5, u2_ne _ _ q2, u2_ne _ _ q1]
    have fI : Fr PCc I I5 := fun x y q => by
      unfold PCc at q
      rw [i5 _ _ (by omega) (by omega), b3 _ _ (by omega), u2_ne _ _ (by omega), a3 _ _ (by omega)]
    have fJ2 : Fr PCm J J2 := fun x y q => by
      unfold PCm at q
      rw [b4 _ _ (by omega), a4 _ _ (by omega)]
    have hS5 : S2 B L q I5 J2 := b5.fr (fun x y q => i5 x y (by omega) (by omega)) (fun _ _ _ => rfl)
    have e17 : ∀ rc, (if I5 111 1 ≠ 0 then some (Sum.inr (Sum.inr (st true n c I5 W p))) else if ((k + 1 : Nat) : Int) < 2 then D_X2_readCurve_47 (D_X2_readCurve_17 f) 111 v ((k + 1 : Nat) : Int) (st true n c I5 W p) else (tgO (st true n c I5 W p) 111 2).bind fun _ => (D_X2_peek 111 (st true n c I5 W p)).bind fun r2 => if r2.1 = 44 then D_X2_readCurve_47 (D_X2_readCurve_17 f) 111 v ((k + 1 : Nat) : Int) r2.2 else some (Sum.inl r2.2)) = some rc → D_X2_readCurve_75 (D_X2_readCurve_17 (f + 1)) 111 x2 (k : Nat) (st true n c I W p) = some rc := by
      intro rc h
      rw [ec]
      show (if 16 < ((k + 1 : Nat) : Int) then _ else _) = _
      rw [if_neg (by omega)]
      exact bdk y2I h
    by_cases z2 : J2 1170 42 = 0
    · have z1 := b7 z2
      obtain ⟨rfl, q1, q2⟩ := a6 z1
      obtain ⟨rfl, q3, q4⟩ := b6 z2
      rw [wm] at q1
      generalize hJ4 : u2 (u2 J2 1224 k v) 1225 k v' = J4
      have j4 : ∀ x y, ¬ (x = 1224 ∧ y = k) → ¬ (x = 1225 ∧ y = k) → J4 x y = J2 x y := fun x y q1 q2 => by rw [← hJ4, u2_ne _ _ q2, u2_ne _ _ q1]
      have hS6 : S2 B L q I5 J4 := hS5.fr (fun _ _ _ => rfl) (fun x y q => j4 x y (by omega) (by omega))
      have z4 : J4 1170 42 = 0 := by rw [j4 _ _ (by omega) (by omega)]; exact z2
      obtain ⟨a0, b0, hq, hab, hc, hm⟩ := hS6.ok z4
      have fJ4 : Fr PCm J J4 := Fr.trans' fJ2 (fun x y q => j4 _ _ (fun w => q (by unfold PCm; omega)) (fun w => q (by unfold PCm; omega)))
      have hR5 : KnR (k + 1) v I5 J4 := by
        obtain ⟨r1, r2, r3, r4⟩ := hR
        have eo : ∀ i, i < k → J4 1224 i = J 1224 i ∧ J4 1225 i = J 1225 i ∧ I5 113 i = I 113 i ∧ I5 114 i = I 114 i := fun i hi => by
          refine ⟨?_, ?_, ?_, ?_⟩
          · rw [j4 _ _ (by omega) (by omega), b4 _ _ (by omega), a4 _ _ (by omega)]
          · rw [j4 _ _ (by omega) (by omega), b4 _ _ (by omega), a4 _ _ (by omega)]
          · rw [i5 _ _ (by omega) (by omega), b3 _ _ (by omega), u2_ne _ _ (by omega), a3 _ _ (by omega)]
          · rw [i5 _ _ (by omega) (by omega), b3 _ _ (by omega), u2_ne _ _ (by omega), a3 _ _ (by omega)]
        have e1 : I5 113 k = v := by rw [i5 _ _ (by omega) (by omega), b3 _ _ (by omega)]; exact u2_eq ..
        have e2 : I5 114 k = v' := by rw [← hI5, u2_ne _ _ (by omega)]; exact u2_eq ..
        have e3 : J4 1224 k = v := by rw [← hJ4, u2_ne _ _ (by omega)]; exact u2_eq ..
        have e4 : J4 1225 k = v' := by rw [← hJ4]; exact u2_eq ..
        refine ⟨fun i hi => ?_, fun i hi => ?_, fun _ => e3, by omega, q2⟩
        · by_cases e : i = k
          · subst e
            rw [e1, e2, e3, e4]
            exact ⟨⟨rfl, rfl⟩, ⟨by omega, q2⟩, q3, q4⟩
          · have := eo i (by omega)
            rw [this.1, this.2.1, this.2.2.1, this.2.2.2]
            exact r1 i (by omega)
        · by_cases e : i + 1 = k
          · rw [(eo i (by omega)).1, e, e3]
            have := r3 (by omega)
            rw [show k - 1 = i by omega] at this
            omega
          · rw [(eo i (by omega)).1, (eo (i + 1) (by omega)).1]
            exact r2 i (by omega)
      have em : ∀ rr, (if ((k + 1 : Nat) : Int) < 2 then D_X9_curve_84 (D_X9_curve_4 (f' + 1)) 1170 ((k + 1 : Nat) : Int) (st true n d J4 V r) else (tgO (st true n d J4 V r) 1170 8).bind fun _ => (D_X9_isSign 1170 44 (st true n d J4 V r)).bind fun r8 => if r8.1 = 0 then D_X9_curve_89 (D_X9_curve_4 (f' + 1)) 1170 ((k + 1 : Nat) : Int) 0 r8.2 else D_X9_curve_84 (D_X9_curve_4 (f' + 1)) 1170 ((k + 1 : Nat) : Int) r8.2) = some rr → D_X9_curve_27 (D_X9_curve_4 (f' + 1)) 1170 (k : Nat) (x2 + 1) 1170 (st true n d J V r) = some rr := by
        intro rr h
        unfold D_X9_curve_27
        refine bdk z9T (bdk a2 (bdk z9T (bdk b2 (bdk z9I ?_))))
        rw [z2, if_pos (by decide)]
        refine bdk z9R32 (bdk (z9S32' (by omega)) (bdk z9R33 (bdk (z9S33' (by omega)) ?_)))
        rw [hJ4, mw_n (by omega)]
        exact h
      have i51 : I5 111 1 = 0 := hc.2.2.1
      rw [i51] at e17
      -- the recursion, behind a comma
      have rec4 : ∀ (J7 : Nat → Nat → Int), KnR (k + 1) v I5 J7 → D_X9_curve_4 (f' + 1) 1170 ((k + 1 : Nat) : Int) 1 (st true n d J7 V r) = D_X9_curve_27 (D_X9_curve_4 f') 1170 ((k + 1 : Nat) : Int) (v + 1) 1170 (st true n d J7 V r) := by
        intro J7 h7
        show (if (1 : Int) = 0 then _ else _) = _
        rw [if_neg (by decide), if_pos (by omega)]
        refine bdk z9R32 ?_
        rw [show mw (((k + 1 : Nat) : Int) - 1) = ((k : Nat) : Int) by rw [mw_of (by omega) (by omega)]; omega]
        refine bdk (z9L32' (by omega)) ?_
        have e := h7.2.2.1 (by omega)
        rw [show k + 1 - 1 = k by omega] at e
        have b7 := h7.2.2.2
        rw [e, mw_of (by omega) (by omega)]
      by_cases k2 : k + 1 < 2
      · -- the second knot: a comma must stand
        obtain ⟨I7, J7, u1, w1, u2', w2, hE, hZ, -⟩ := t_sign (n := n) (c := c) (d := d) (W := W) (V := V) (p := p) (r := r) (x := 44) hB hL (by decide) hS6
        have ec3 : ∀ rc, D_X2_readCurve_75 (D_X2_readCurve_17 f) 111 v ((k + 1 : Nat) : Int) (st true n c I7 W p) = some rc → D_X2_readCurve_75 (D_X2_readCurve_17 (f + 1)) 111 x2 (k : Nat) (st true n c I W p) = some rc := by
          intro rc h
          refine e17 rc ?_
          rw [if_neg (by decide), if_pos (by omega)]
          unfold D_X2_readCurve_47
          rw [if_pos (by omega), if_neg (by omega)]
          exact bdk y2T (bdk u1 h)
        have em3 : ∀ rr, (if J7 1170 42 ≤ 0 then D_X9_curve_4 (f' + 1) 1170 ((k + 1 : Nat) : Int) 1 (st true n d J7 V r) else some (Sum.inr (st true n d J7 V r))) = some rr → D_X9_curve_27 (D_X9_curve_4 (f' + 1)) 1170 (k : Nat) (x2 + 1) 1170 (st true n d J V r) = some rr := by
          intro rr h
          refine em rr ?_
          rw [if_pos (by omega)]
          unfold D_X9_curve_84 D_X9_curve_89 D_X9_curve_109 D_X9_curve_119
          rw [if_neg (by decide), if_pos (by omega), if_neg (by decide)]
          exact bdk z9T (bdk w1 (bdk z9I h))
        have fI7 : Fr PCc I I7 := Fr.trans' fI (fun x y q => u2' x y (fun w => q (by unfold PCc; omega)))
        have fJ7 : Fr PCm J J7 := Fr.trans' fJ4 (fun x y q => w2 x y (fun w => q (by unfold PCm; omega)))
        rcases hE with ⟨a', ha, hcx, hmx⟩ | hb
        · first
          | exact absurd (by omega : k + 1 = 16) (by omega)
          | have hR7' : KnR (k + 1) v I5 J7 := by
              obtain ⟨r1, r2, r3, r4⟩ := hR5
              refine ⟨fun i hi => ?_, fun i hi => ?_, fun hi => ?_, r4⟩
              · rw [w2 _ _ (by omega), w2 _ _ (by omega)]; exact r1 i hi
              · rw [w2 _ _ (by omega), w2 _ _ (by omega)]; exact r2 i hi
              · rw [w2 _ _ (by omega)]; exact r3 hi
            have hR7 : KnR (k + 1) v I7 J7 := by
              obtain ⟨r1, r2⟩ := hR7'
              exact ⟨fun i hi => by rw [u2'.ne (by decide), u2'.ne (by decide)]; exact r1 i hi, r2⟩
            obtain ⟨I8, J8, rc, rr, y1, y2, y3, y4, y5⟩ := ih (k + 1) f f' I7 J7 v (by omega) (by omega) (by omega) (Or.inl ⟨_, _, by have := sk_ge (B := B) (L := L) (i := a'); omega, rfl, hcx, hmx⟩) hmx.2 hR7
            refine ⟨I8, J8, rc, rr, ec3 _ y1, em3 _ ?_, Fr.trans' fI7 y3, Fr.trans' fJ7 y4, y5⟩
            rw [hmx.2, if_pos (by decide), rec4 J7 hR7']
            exact y2
        · obtain ⟨k0, pl, hcf, hmf⟩ := hb
          obtain ⟨f, rfl⟩ : ∃ g, f = g + 1 := ⟨f - 1, by omega⟩
          obtain ⟨I8, y1, y2, y3⟩ := c_75F (n := n) (c := c) (W := W) (p := p) (f := f) (k := k + 1) (x2 := v) hL (by omega) hcf
          refine ⟨I8, J7, _, _, ec3 _ y1, em3 _ ?_, Fr.trans' fI7 y3, fJ7, Or.inr (Or.inl ⟨rfl, rfl, ⟨k0, pl, y2, hmf⟩⟩)⟩
          rw [hmf.2.1.1, if_neg (by have := hmf.2.1.2; omega)]
      · rw [if_neg (by decide), if_neg (by omega)] at e17
        rw [if_neg (by omega)] at em
        have ep := c_peek (n := n) (c := c) (W := W) (p := p) hL hc
        have es := m_isSign (n := n) (c := d) (W := V) (p := r) (x := 44) hB hL (by decide) hm
        rw [← hab] at es
        have hc' : CX B L (sk B L a0) (u2 I5 111 5 (sk B L a0 : Nat)) := CX.mv hc (sk_le hc.2.2.2.2)
        have hm' : MX B L (sk B L a0) (u2 J4 1170 39 (sk B L a0 : Nat)) := MX.mv hm (sk_le hc.2.2.2.2)
        generalize hI6 : u2 I5 111 5 (sk B L a0 : Nat) = I6 at ep hc'
        generalize hJ5 : u2 J4 1170 39 (sk B L a0 : Nat) = J5 at es hm'
        have i6 : ∀ x y, x ≠ 111 → I6 x y = I5 x y := fun x y q => by rw [← hI6, u2_ne _ _ (by omega)]
        have j5 : ∀ x y, x ≠ 1170 → J5 x y = J4 x y := fun x y q => by rw [← hJ5, u2_ne _ _ (by omega)]
        have fI6 : Fr PCc I I6 := Fr.trans' fI (fun x y q => by rw [← hI6]; exact u2_ne _ _ (fun w => q (by unfold PCc; omega)))
        have fJ5 : Fr PCm J J5 := Fr.trans' fJ4 (fun x y q => by rw [← hJ5]; exact u2_ne _ _ (fun w => q (by unfold PCm; omega)))
        have hR6' : KnR (k + 1) v I5 J5 := by
          obtain ⟨r1, r2, r3, r4⟩ := hR5
          refine ⟨fun i hi => ?_, fun i hi => ?_, fun hi => ?_, r4⟩
          · rw [j5 _ _ (by omega), j5 _ _ (by omega)]; exact r1 i hi
          · rw [j5 _ _ (by omega), j5 _ _ (by omega)]; exact r2 i hi
          · rw [j5 _ _ (by omega)]; exact r3 hi
        have hR6 : KnR (k + 1) v I6 J5 := by
          obtain ⟨r1, r2⟩ := hR6'
          exact ⟨fun i hi => by rw [i6 _ _ (by omega), i6 _ _ (by omega)]; exact r1 i hi, r2⟩
        have ec2 : ∀ rc, (if pk B L (sk B L a0) = 44 then D_X2_readCurve_47 (D_X2_readCurve_17 f) 111 v ((k + 1 : Nat) : Int) (st true n c I6 W p) else some (Sum.inl (st true n c I6 W p))) = some rc → D_X2_readCurve_75 (D_X2_readCurve_17 (f + 1)) 111 x2 (k : Nat) (st true n c I W p) = some rc := fun rc h => e17 rc (bdk y2T (bdk ep h))
        have em2 : ∀ rr, (if bI (decide (pk B L (sk B L a0) = 44)) = 0 then D_X9_curve_89 (D_X9_curve_4 (f' + 1)) 1170 ((k + 1 : Nat) : Int) 0 (st true n d J5 V r) else D_X9_curve_84 (D_X9_curve_4 (f' + 1)) 1170 ((k + 1 : Nat) : Int) (st true n d J5 V r)) = some rr → D_X9_curve_27 (D_X9_curve_4 (f' + 1)) 1170 (k : Nat) (x2 + 1) 1170 (st true n d J V r) = some rr := fun rr h => em rr (bdk z9T (bdk es h))
        by_cases e44 : pk B L (sk B L a0) = 44
        · rw [decide_eq_true e44] at em2
          rw [if_pos e44] at ec2
          by_cases k16 : k + 1 = 16
          · have hf := hm'.wr (k := 3) (pl := (sk B L a0 : Nat)) (by decide)
            refine ⟨I6, wro J5 3 (sk B L a0 : Nat), _, _, ec2 _ ?_, em2 _ ?_, fI6, Fr.trans' fJ5 (fun x y q => MC.w _ _ (fun w => q (by unfold PCm; omega))), Or.inr (Or.inr ⟨sk B L a0, rfl, rfl, hc', hf⟩)⟩
            · unfold D_X2_readCurve_47
              rw [if_neg (by omega)]
            · show (if (1 : Int) = 0 then _ else _) = _
              rw [if_neg (by decide)]
              unfold D_X9_curve_84 D_X9_curve_89 D_X9_curve_109 D_X9_curve_119
              rw [if_neg (by decide), if_neg (by omega)]
              refine bdk z9I ?_
              rw [hm'.1.2.2.1]
              refine bdk z9T (bdk (m_wrong hm'.2) ?_)
              rw [if_neg (by decide)]
              refine bdk z9T (bdk (m_mustF hf) (bdk z9I ?_))
              rw [hf.2.1.1, if_neg (by omega)]
          · obtain ⟨I7, u1, u2', u3⟩ := c_sign (n := n) (c := c) (W := W) (p := p) (x := 44) hL (by decide) hc'
            obtain ⟨J7, w1, w2, w3⟩ := m_must (n := n) (c := d) (W := V) (p := r) (x := 44) hB hL (by decide) hm'
            rw [sk_sk] at u3 w3
            have hcx : CX B L (sk B L a0 + 1) I7 := u3.elim (fun h => h.2) (fun h => absurd e44 h.1)
            have hmx : MX B L (sk B L a0 + 1) J7 := w3.elim (fun h => h.2) (fun h => absurd e44 h.1)
            first
            | exact absurd (by omega : k + 1 = 16) k16
            | have hR7' : KnR (k + 1) v I5 J7 := by
                obtain ⟨r1, r2, r3, r4⟩ := hR6'
                refine ⟨fun i hi => ?_, fun i hi => ?_, fun hi => ?_, r4⟩
                · rw [w2 _ _ (by omega), w2 _ _ (by omega)]; exact r1 i hi
                · rw [w2 _ _ (by omega), w2 _ _ (by omega)]; exact r2 i hi
                · rw [w2 _ _ (by omega)]; exact r3 hi
              have hR7 : KnR (k + 1) v I7 J7 := by
                obtain ⟨r1, r2⟩ := hR7'
                exact ⟨fun i hi => by rw [u2'.ne (by decide), u2'.ne (by decide), i6 _ _ (by omega), i6 _ _ (by omega)]; exact r1 i hi, r2⟩
              obtain ⟨I8, J8, rc, rr, y1, y2, y3, y4, y5⟩ := ih (k + 1) f f' I7 J7 v (by omega) (by omega) (by omega) (Or.inl ⟨_, _, by have := sk_ge (B := B) (L := L) (i := sk B L a0 + 1); omega, rfl, hcx, hmx⟩) hmx.2 hR7
              refine ⟨I8, J8, rc, rr, ec2 _ ?_, em2 _ ?_, Fr.trans' (Fr.trans' fI6 (fun x y q => u2' x y (fun w => q (by unfold PCc; omega)))) y3, Fr.trans' (Fr.trans' fJ5 (fun x y q => w2 x y (fun w => q (by unfold PCm; omega)))) y4, y5⟩
              · unfold D_X2_readCurve_47
                rw [if_pos (by omega), if_neg (by omega)]
                exact bdk y2T (bdk u1 y1)
              · show (if (1 : Int) = 0 then _ else _) = _
                rw [if_neg (by decide)]
                unfold D_X9_curve_84 D_X9_curve_89 D_X9_curve_109 D_X9_curve_119
                rw [if_neg (by decide), if_pos (by omega), if_neg (by decide)]
                refine bdk z9T (bdk w1 (bdk z9I ?_))
                rw [hmx.2, if_pos (by decide), rec4 J7 hR7']
                exact y2
        · rw [decide_eq_false e44] at em2
          rw [if_neg e44] at ec2
          refine ⟨I6, J5, _, _, ec2 _ rfl, em2 _ ?_, fI6, fJ5, Or.inl ⟨k + 1, v, rfl, rfl, by omega, Or.inl ⟨_, _, by rw [sk_sk]; exact hq, rfl, hc', hm'⟩, hm'.2, ?_, hR6⟩⟩
          · show (if (0 : Int) = 0 then _ else _) = _
            rw [if_pos rfl]
            unfold D_X9_curve_89 D_X9_curve_109 D_X9_curve_119
            rw [if_pos rfl, if_pos rfl]
            refine bdk z9I ?_
            rw [hm'.2, if_pos (by decide)]
            exact if_pos rfl
          · rw [i6 _ _ (by omega), ← hI5]
            exact u2_eq ..
    · have hb := hS5.bad z2
      refine ⟨I5, J2, _, _, e17 _ ?_, ?_, fI, fJ2, Or.inr (Or.inl ⟨rfl, rfl, hb⟩)⟩
      · obtain ⟨k0, pl, hcf, -⟩ := hb
        rw [if_pos hcf.nz]
      · obtain ⟨k0, pl, -, -, ⟨t1, t2⟩, -⟩ := hb
        unfold D_X9_curve_27
        refine bdk z9T (bdk a2 (bdk z9T (bdk b2 (bdk z9I ?_))))
        rw [if_neg (by omega)]
end CV
