/-! THE PURE PART: a sample of rings, on both sides -/
section RG
variable {n : Nat} {c d : Nat × Nat × Nat × Nat} {I J I' J' : Nat → Nat → Int} {W V : Nat → Nat → BitVec 64} {p r : Nat → Nat} {B : Nat → Int} {L q m ns np nr a b : Nat} {k pl : Int} {vs : Nat → Int}
/-- the rings read so far -/
def RgR (ns k : Nat) (I J : Nat → Nat → Int) : Prop := ∀ i, i < k → (I (112 + 6 + 3 * ns + 1) i = J 1173 (123 + 15 * ns + (3 + i)) ∧ I (112 + 6 + 3 * ns + 2) i = J 1173 (123 + 15 * ns + (9 + i))) ∧ (0 ≤ J 1173 (123 + 15 * ns + (3 + i)) ∧ J 1173 (123 + 15 * ns + (3 + i)) ≤ 300) ∧ 0 ≤ J 1173 (123 + 15 * ns + (9 + i)) ∧ J 1173 (123 + 15 * ns + (9 + i)) ≤ 9999
def PRc (ns : Nat) (x y : Nat) : Prop := (x = 111 ∧ (y = 1 ∨ y = 2 ∨ 5 ≤ y ∧ y ≤ 7)) ∨ (x = 112 + 6 + 3 * ns ∧ y = 2) ∨ x = 112 + 6 + 3 * ns + 1 ∨ x = 112 + 6 + 3 * ns + 2
def PRm (ns : Nat) (x y : Nat) : Prop := (x = 1170 ∧ 39 ≤ y ∧ y ≤ 43) ∨ (x = 1173 ∧ 123 + 15 * ns + 3 ≤ y ∧ y < 123 + 15 * ns + 15)
theorem rg_loop (hB : ∀ k, 0 ≤ B k ∧ B k < 256) (hL : L ≤ 500) (hs : ns < 12) : ∀ (dd k f f' : Nat) (I J : Nat → Nat → Int) (x2 : Int), k + dd + 1 = 6 → dd + 1 < f → dd + 2 < f' → S2 B L q I J → J 1170 42 = 0 → J 1170 45 = (ns : Nat) → -1 ≤ x2 ∧ x2 ≤ 300 → RgR ns k I J →
    ∃ I' J' rc rr, D_X2_readRings_127 (D_X2_readRings_65 f) 111 (112 + 6 + 3 * ns) x2 (k : Nat) (st true n c I W p) = some rc ∧ D_X9_ringed_70 f' 1170 (k : Nat) x2 1 (st true n d J V r) = some rr ∧ Fr (PRc ns) I I' ∧ Fr (PRm ns) J J' ∧
      ((∃ k' : Nat, rc = Sum.inl (st true n c I' W p) ∧ rr = Sum.inl ((k' : Int), st true n d J' V r) ∧ (1 ≤ k' ∧ k' ≤ 6) ∧ S2 B L q I' J' ∧ J' 1170 42 = 0 ∧ I' (112 + 6 + 3 * ns) 2 = (k' : Nat) ∧ RgR ns k' I' J') ∨
       (rc = Sum.inr (Sum.inr (st true n c I' W p)) ∧ rr = Sum.inr (st true n d J' V r) ∧ Bad B L I' J') ∨
       (∃ a : Nat, rc = Sum.inr (Sum.inl (st true n c I' W p)) ∧ rr = Sum.inr (st true n d J' V r) ∧ CX B L a I' ∧ MF B L 3 (a : Nat) J')) := by
  intro dd
  induction dd with
  | zero => ?_
  | succ dd ih => ?_
  all_goals
    intro k f f' I J x2 hk hf hf' hS z h45 hx hR
    obtain ⟨f, rfl⟩ : ∃ g, f = g + 1 := ⟨f - 1, by omega⟩
    obtain ⟨f', rfl⟩ : ∃ g, f' = g + 1 := ⟨f' - 1, by omega⟩
    obtain ⟨v, w, I1, J1, a1, a2, a3, a4, a5, a6, a7, -⟩ := t_num (n := n) (c := c) (d := d) (W := W) (V := V) (p := p) (r := r) (l1 := x2 + 1) (l2 := x2 + 1) (hi := 300) hB hL (by decide) hS (fun _ => rfl)
    have wm : mw (x2 + 1) = x2 + 1 := mw_of (by omega) (by omega)
    obtain ⟨v', w', I3, J2, b1, b2, b3, b4, b5, b6, b7, -⟩ := t_num (n := n) (c := c) (d := d) (W := W) (V := V) (p := p) (r := r) (l1 := 0) (l2 := 0) (hi := 9999) hB hL (by decide) (a5.fr (I' := u2 I1 (112 + 6 + 3 * ns + 1) k v) (J' := J1) (fun x y z => u2_ne _ _ (by omega)) (fun _ _ _ => rfl)) (fun _ => rfl)
    generalize hI5 : u2 (u2 I3 (112 + 6 + 3 * ns + 2) k v') (112 + 6 + 3 * ns) 2 ((k + 1 : Nat) : Int) = I5
    have i5 : ∀ x y, ¬ (x = 112 + 6 + 3 * ns + 2 ∧ y = k) → ¬ (x = 112 + 6 + 3 * ns ∧ y = 2) → I5 x y = I3 x y := fun x y q1 q2 => by rw [← hI5, u2_ne _ _ q2, u2_ne _ _ q1]
    have fI : Fr (PRc ns) I I5 := fun x y q => by
      unfold PRc at q
      rw [i5 _ _ (by omega) (by omega), b3 _ _ (by omega), u2_ne _ _ (by omega), a3 _ _ (by omega)]
    have fJ2 : Fr (PRm ns) J J2 := fun x y q => by
      unfold PRm at q
      rw [b4 _ _ (by omega), a4 _ _ (by omega)]
    have ec : ∀ rc, D_X2_readRings_65 (f + 1) 111 (112 + 6 + 3 * ns) v ((k + 1 : Nat) : Int) (st true n c I5 W p) = some rc → D_X2_readRings_127 (D_X2_readRings_65 (f + 1)) 111 (112 + 6 + 3 * ns) x2 (k : Nat) (st true n c I W p) = some rc := by
      intro rc h
      unfold D_X2_readRings_127
      rw [wm]
      refine bdk y2T (bdk a1 (bdk (t4R3 TB112 hs) (bdk (s_sI (tHs1 TB112 hs) (by omega) (by omega)) (bdk (t4R4 TB112 hs) (bdk y2T (bdk b1 (bdk (s_sI (tHs2 TB112 hs) (by omega) (by omega)) ?_)))))))
      rw [toN, mw_n (by omega)]
      refine bdk (t4P TB112 hs) ?_
      rw [hI5]
      exact h
    have hS5 : S2 B L q I5 J2 := b5.fr (fun x y q => i5 x y (by omega) (by omega)) (fun _ _ _ => rfl)
    have em : ∀ rr, (if (J2 1170 42) ≤ 0 then
        (tgO (st true n d J2 V r) 1170 8).bind fun _ =>
        (D_X9_setSample 1170 (mw (3 + (k : Nat))) w (st true n d J2 V r)).bind fun r4 =>
        (tgO r4 1170 8).bind fun _ =>
        (D_X9_setSample 1170 (mw (9 + (k : Nat))) w' r4).bind fun r5 =>
        (tgO r5 1170 8).bind fun _ =>
        (D_X9_isSign 1170 44 r5).bind fun r6 =>
        if r6.1 = 0 then
          D_X9_ringed_155 (D_X9_ringed_70 f') 1170 (mw ((k : Nat) + 1)) w r6.1 r6.2
        else
          if (mw ((k : Nat) + 1)) ≠ 6 then
            D_X9_ringed_155 (D_X9_ringed_70 f') 1170 (mw ((k : Nat) + 1)) w r6.1 r6.2
          else
            (gI r6.2 1170 8 39).bind fun v7 =>
            (tgO r6.2 1170 8).bind fun _ =>
            (D_X9_wrong 1170 3 v7 r6.2).bind fun r8 =>
            D_X9_ringed_155 (D_X9_ringed_70 f') 1170 (mw ((k : Nat) + 1)) w r6.1 r8
      else
        some (Sum.inr (st true n d J2 V r))) = some rr → D_X9_ringed_70 (f' + 1) 1170 (k : Nat) x2 1 (st true n d J V r) = some rr := by
      intro rr h
      show (if (1 : Int) = 0 then _ else _) = _
      rw [if_neg (by decide), wm]
      exact bdk z9T (bdk a2 (bdk z9T (bdk b2 (bdk z9I h))))
    by_cases z2 : J2 1170 42 = 0
    · have z1 := b7 z2
      obtain ⟨rfl, q1, q2⟩ := a6 z1
      obtain ⟨rfl, q3, q4⟩ := b6 z2
      have p2 : J2 1170 45 = (ns : Nat) := by rw [fJ2 _ _ (by unfold PRm; omega)]; exact h45
      have e3 := m_set (n := n) (d := d) (V := V) (r := r) (J := J2) (w := 3 + k) (x := v) p2 hs (by omega)
      have e4 := m_set (n := n) (d := d) (V := V) (r := r) (J := u2 J2 1173 (123 + 15 * ns + (3 + k)) v) (w := 9 + k) (x := v') (by rw [u2_ne _ _ (by omega)]; exact p2) hs (by omega)
      generalize hJ4 : u2 (u2 J2 1173 (123 + 15 * ns + (3 + k)) v) 1173 (123 + 15 * ns + (9 + k)) v' = J4 at e4
      have j4 : ∀ x y, ¬ (x = 1173 ∧ y = 123 + 15 * ns + (9 + k)) → ¬ (x = 1173 ∧ y = 123 + 15 * ns + (3 + k)) → J4 x y = J2 x y := fun x y q1 q2 => by rw [← hJ4, u2_ne _ _ q1, u2_ne _ _ q2]
      have hS6 : S2 B L q I5 J4 := hS5.fr (fun _ _ _ => rfl) (fun x y q => j4 x y (by omega) (by omega))
      have z4 : J4 1170 42 = 0 := by rw [j4 _ _ (by omega) (by omega)]; exact z2
      obtain ⟨a0, b0, hq, hab, hc, hm⟩ := hS6.ok z4
      have ep := c_peek (n := n) (c := c) (W := W) (p := p) hL hc
      have es := m_isSign (n := n) (c := d) (W := V) (p := r) (x := 44) hB hL (by decide) hm
      rw [← hab] at es
      have hc' : CX B L (sk B L a0) (u2 I5 111 5 (sk B L a0 : Nat)) := CX.mv hc (sk_le hc.2.2.2.2)
      have hm' : MX B L (sk B L a0) (u2 J4 1170 39 (sk B L a0 : Nat)) := MX.mv hm (sk_le hc.2.2.2.2)
      generalize hI6 : u2 I5 111 5 (sk B L a0 : Nat) = I6 at ep hc'
      generalize hJ5 : u2 J4 1170 39 (sk B L a0 : Nat) = J5 at es hm'
      have i6 : ∀ x y, x ≠ 111 → I6 x y = I5 x y := fun x y q => by rw [← hI6, u2_ne _ _ (by omega)]
      have j5 : ∀ x y, x ≠ 1170 → J5 x y = J4 x y := fun x y q => by rw [← hJ5, u2_ne _ _ (by omega)]
      have fI6 : Fr (PRc ns) I I6 := Fr.trans' fI (fun x y q => by rw [← hI6]; exact u2_ne _ _ (fun w => q (by unfold PRc; omega)))
      have fJ5 : Fr (PRm ns) J J5 := Fr.trans' fJ2 (fun x y q => by rw [← hJ5, u2_ne _ _ (fun w => q (by unfold PRm; omega)), j4 _ _ (fun w => q (by unfold PRm; omega)) (fun w => q (by unfold PRm; omega))])
      have hR6 : RgR ns (k + 1) I6 J5 := by
        intro i hi
        rw [i6 _ _ (by omega), i6 _ _ (by omega), j5 _ _ (by omega), j5 _ _ (by omega)]
        by_cases e : i = k
        · subst e
          rw [i5 _ _ (by omega) (by omega), b3 _ _ (by omega)]
          have e1 : u2 I1 (112 + 6 + 3 * ns + 1) i v (112 + 6 + 3 * ns + 1) i = v := u2_eq ..
          have e2 : I5 (112 + 6 + 3 * ns + 2) i = v' := by rw [← hI5, u2_ne _ _ (by omega)]; exact u2_eq ..
          have e3 : J4 1173 (123 + 15 * ns + (3 + i)) = v := by rw [← hJ4, u2_ne _ _ (by omega)]; exact u2_eq ..
          have e4 : J4 1173 (123 + 15 * ns + (9 + i)) = v' := by rw [← hJ4]; exact u2_eq ..
          rw [e1, e2, e3, e4]
          exact ⟨⟨rfl, rfl⟩, ⟨by omega, q2⟩, q3, q4⟩
        · have := hR i (by omega)
          rw [i5 _ _ (by omega) (by omega), i5 _ _ (by omega) (by omega), b3 _ _ (by omega), b3 _ _ (by omega), u2_ne _ _ (by omega), u2_ne _ _ (by omega), a3 _ _ (by omega), a3 _ _ (by omega), j4 _ _ (by omega) (by omega), j4 _ _ (by omega) (by omega), b4 _ _ (by omega), b4 _ _ (by omega), a4 _ _ (by omega), a4 _ _ (by omega)]
          exact this
      have z5 : J5 1170 42 = 0 := hm'.2
      have em2 : ∀ rr, (if bI (decide (pk B L (sk B L a0) = 44)) = 0 then
          D_X9_ringed_155 (D_X9_ringed_70 f') 1170 ((k + 1 : Nat) : Int) v (bI (decide (pk B L (sk B L a0) = 44))) (st true n d J5 V r)
        else
          if ((k + 1 : Nat) : Int) ≠ 6 then
            D_X9_ringed_155 (D_X9_ringed_70 f') 1170 ((k + 1 : Nat) : Int) v (bI (decide (pk B L (sk B L a0) = 44))) (st true n d J5 V r)
          else
            (gI (st true n d J5 V r) 1170 8 39).bind fun v7 =>
            (tgO (st true n d J5 V r) 1170 8).bind fun _ =>
            (D_X9_wrong 1170 3 v7 (st true n d J5 V r)).bind fun r8 =>
            D_X9_ringed_155 (D_X9_ringed_70 f') 1170 ((k + 1 : Nat) : Int) v (bI (decide (pk B L (sk B L a0) = 44))) r8) = some rr → D_X9_ringed_70 (f' + 1) 1170 (k : Nat) x2 1 (st true n d J V r) = some rr := by
        intro rr h
        refine em rr ?_
        rw [z2, if_pos (by decide), mw_n (by omega), show mw (3 + ((k : Nat) : Int)) = ((3 + k : Nat) : Int) by rw [mw_of (by omega) (by omega)]; omega, show mw (9 + ((k : Nat) : Int)) = ((9 + k : Nat) : Int) by rw [mw_of (by omega) (by omega)]; omega]
        exact bdk z9T (bdk e3 (bdk z9T (bdk e4 (bdk z9T (bdk es h)))))
      have ec2 : ∀ rc, (if pk B L (sk B L a0) = 44 then D_X2_readRings_97 (D_X2_readRings_65 f) 111 (112 + 6 + 3 * ns) v ((k + 1 : Nat) : Int) (st true n c I6 W p) else some (Sum.inl (st true n c I6 W p))) = some rc → D_X2_readRings_127 (D_X2_readRings_65 (f + 1)) 111 (112 + 6 + 3 * ns) x2 (k : Nat) (st true n c I W p) = some rc := by
        intro rc h
        refine ec rc ?_
        show (if 6 < ((k + 1 : Nat) : Int) then _ else _) = _
        rw [if_neg (by omega)]
        refine bdk y2I ?_
        rw [hc.2.2.1, if_neg (by decide), if_neg (by omega)]
        exact bdk y2T (bdk ep h)
      by_cases e44 : pk B L (sk B L a0) = 44
      · rw [decide_eq_true e44] at em2
        rw [if_pos e44] at ec2
        by_cases k6 : k + 1 = 6
        · refine ⟨I6, wro J5 3 (sk B L a0 : Nat), _, _, ec2 _ ?_, em2 _ ?_, fI6, Fr.trans' fJ5 (fun x y q => MC.w _ _ (fun w => q (by unfold PRm; omega))), Or.inr (Or.inr ⟨sk B L a0, rfl, rfl, hc', hm'.wr (by decide)⟩)⟩
          · unfold D_X2_readRings_97
            rw [if_neg (by omega)]
          · show (if (1 : Int) = 0 then _ else _) = _
            rw [if_neg (by decide), if_neg (by omega)]
            refine bdk z9I ?_
            rw [hm'.1.2.2.1]
            refine bdk z9T (bdk (m_wrong z5) ?_)
            have hf := hm'.wr (k := 3) (pl := (sk B L a0 : Nat)) (by decide)
            unfold D_X9_ringed_155 D_X9_ringed_165
            show (if (1 : Int) = 0 then _ else _) = _
            rw [if_neg (by decide)]
            refine bdk z9T (bdk (m_mustF hf) (bdk z9I ?_))
            rw [hf.2.1.1, if_neg (by omega)]
        · obtain ⟨I7, u1, u2', u3⟩ := c_sign (n := n) (c := c) (W := W) (p := p) (x := 44) hL (by decide) hc'
          obtain ⟨J7, w1, w2, w3⟩ := m_must (n := n) (c := d) (W := V) (p := r) (x := 44) hB hL (by decide) hm'
          rw [sk_sk] at u3 w3
          have hcx : CX B L (sk B L a0 + 1) I7 := u3.elim (fun h => h.2) (fun h => absurd e44 h.1)
          have hmx : MX B L (sk B L a0 + 1) J7 := w3.elim (fun h => h.2) (fun h => absurd e44 h.1)
          have g65 : D_X2_readRings_97 (D_X2_readRings_65 f) 111 (112 + 6 + 3 * ns) v ((k + 1 : Nat) : Int) (st true n c I6 W p) = D_X2_readRings_127 (D_X2_readRings_65 f) 111 (112 + 6 + 3 * ns) v ((k + 1 : Nat) : Int) (st true n c I7 W p) := by
            unfold D_X2_readRings_97
            rw [if_pos (by omega), if_neg (by omega)]
            exact bdk y2T (bdk u1 rfl)
          have g70 : (if (1 : Int) = 0 then D_X9_ringed_155 (D_X9_ringed_70 f') 1170 ((k + 1 : Nat) : Int) v 1 (st true n d J5 V r) else if ((k + 1 : Nat) : Int) ≠ 6 then D_X9_ringed_155 (D_X9_ringed_70 f') 1170 ((k + 1 : Nat) : Int) v 1 (st true n d J5 V r) else none) = D_X9_ringed_70 f' 1170 ((k + 1 : Nat) : Int) v 1 (st true n d J7 V r) := by
            rw [if_neg (by decide), if_pos (by omega)]
            unfold D_X9_ringed_155 D_X9_ringed_165
            rw [if_neg (by decide)]
            refine bdk z9T (bdk w1 (bdk z9I ?_))
            rw [hmx.2, if_pos (by decide)]
          first
          | exact absurd (by omega : k + 1 = 6) k6
          | obtain ⟨I8, J8, rc, rr, y1, y2, y3, y4, y5⟩ := ih (k + 1) f f' I7 J7 v (by omega) (by omega) (by omega) (Or.inl ⟨_, _, by have := sk_ge (B := B) (L := L) (i := sk B L a0 + 1); omega, rfl, hcx, hmx⟩) hmx.2 (by rw [w2 _ _ (by omega), fJ5 _ _ (by unfold PRm; omega)]; exact h45) ⟨by omega, q2⟩ (fun i hi => by
                have := hR6 i hi
                rw [u2'.ne (by omega), u2'.ne (by omega), w2 _ _ (by omega), w2 _ _ (by omega)]
                exact this)
            refine ⟨I8, J8, rc, rr, ec2 _ (g65.trans y1), em2 _ ?_, Fr.trans' (Fr.trans' fI6 (fun x y q => u2' x y (fun w => q (by unfold PRc; omega)))) y3, Fr.trans' (Fr.trans' fJ5 (fun x y q => w2 x y (fun w => q (by unfold PRm; omega)))) y4, y5⟩
            have g := g70.trans y2
            rw [if_neg (by decide), if_pos (by omega)] at g
            show (if (1 : Int) = 0 then _ else _) = _
            rw [if_neg (by decide), if_pos (by omega)]
            exact g
      · rw [decide_eq_false e44] at em2
        rw [if_neg e44] at ec2
        refine ⟨I6, J5, _, _, ec2 _ rfl, em2 _ ?_, fI6, fJ5, Or.inl ⟨k + 1, rfl, rfl, by omega, Or.inl ⟨_, _, by rw [sk_sk]; exact hq, rfl, hc', hm'⟩, z5, ?_, hR6⟩⟩
        · show (if (0 : Int) = 0 then _ else _) = _
          rw [if_pos rfl]
          unfold D_X9_ringed_155 D_X9_ringed_165
          show (if (0 : Int) = 0 then _ else _) = _
          rw [if_pos rfl]
          refine bdk z9I ?_
          rw [z5, if_pos (by decide)]
          obtain ⟨g, rfl⟩ : ∃ g, f' = g + 1 := ⟨f' - 1, by omega⟩
          exact if_pos rfl
        · rw [i6 _ _ (by omega), ← hI5]
          exact u2_eq ..
    · have hb := hS5.bad z2
      refine ⟨I5, J2, _, _, ec _ ?_, em _ ?_, fI, fJ2, Or.inr (Or.inl ⟨rfl, rfl, hb⟩)⟩
      · show (if 6 < ((k + 1 : Nat) : Int) then _ else _) = _
        rw [if_neg (by omega)]
        refine bdk y2I ?_
        obtain ⟨k0, pl, hcf, -⟩ := hb
        rw [if_pos hcf.nz]
      · obtain ⟨k0, pl, -, -, ⟨t1, t2⟩, -⟩ := hb
        rw [if_neg (by omega)]
end RG
