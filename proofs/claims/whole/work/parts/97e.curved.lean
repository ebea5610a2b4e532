/-! THE PURE PART: the curve's line, the reserve's, on both sides, whole -/
section CW
variable {n : Nat} {c d : Nat × Nat × Nat × Nat} {I J I' J' J0 : Nat → Nat → Int} {W V : Nat → Nat → BitVec 64} {p r : Nat → Nat} {B : Nat → Int} {L q m ns np nr a b : Nat} {k pl : Int} {vs : Nat → Int}
/-- nothing told yet -/
def Ini (I J : Nat → Nat → Int) : Prop := (I 112 0 = 1 ∧ I 112 1 = 0 ∧ I 112 3 = 0 ∧ I 112 4 = 0 ∧ I 112 5 = 0 ∧ I 111 8 = 0 ∧ I 111 9 = 0) ∧ J 1173 0 = 1 ∧ J 1173 1 = 0 ∧ J 1173 2 = 0 ∧ J 1170 45 = 0 ∧ J 1170 46 = 0
theorem b_curve (hB : ∀ k, 0 ≤ B k ∧ B k < 256) (hL : L ≤ 500) (hi : Ini I J) (h49 : J 1170 49 = 1) (h1 : CX B L a I) (h2 : MX B L a J) :
    ∃ I' J1 J', D_X2_readCurve_13 111 (st true n c I W p) = some (st true n c I' W p) ∧ D_X9_curve 1170 (st true n d J V r) = some (st true n d J1 V r) ∧ D_X9_oneLine_397 1170 (st true n d J1 V r) = some (st true n d J' V r) ∧ Out B L a I J I' J' := by
  obtain ⟨g, hg, g20⟩ := mFU_s
  obtain ⟨I1, J1, rc, rr, e1, e2, f1, f2, hr⟩ := cv_loop (n := n) (c := c) (d := d) (W := W) (V := V) (p := p) (r := r) hB hL 15 0 g g I J (-1) (by omega) (by omega) (by omega) (Or.inl ⟨a, a, sk_ge, rfl, h1, h2⟩) h2.2 ⟨fun i hi => absurd hi (by omega), fun i hi => absurd hi (by omega), fun h => absurd h (by omega), by omega, by omega⟩
  have ec : D_X2_readCurve_17 mFU 111 (-1) 0 (st true n c I W p) = some rc := by
    rw [hg]
    show (if 16 < (0 : Int) then _ else _) = _
    rw [if_neg (by decide)]
    refine bdk y2I ?_
    rw [h1.2.2.1, if_neg (by decide), if_pos (by decide)]
    unfold D_X2_readCurve_47
    rw [if_pos (by decide), if_pos (by decide)]
    exact e1
  have em : D_X9_curve_4 mFU 1170 0 1 (st true n d J V r) = some rr := by
    rw [hg]
    show (if (1 : Int) = 0 then _ else _) = _
    rw [if_neg (by decide), if_neg (by decide)]
    exact e2
  have pI : Fr PDc I I1 := f1.mono (fun x y w => by unfold PCc at w; unfold PDc; omega)
  have pJ : Fr PDm J J1 := f2.mono (fun x y w => by unfold PCm at w; unfold PDm; omega)
  rcases hr with ⟨k', x, rfl, rfl, k16, hS1, z1, i2, hR⟩ | ⟨rfl, rfl, k0, pl, hcf, hmf⟩ | ⟨a1, rfl, rfl, hcx, hmf⟩
  · obtain ⟨I2, J2, s1, s2, s3', s4, hE, hZ, -⟩ := t_sign (n := n) (c := c) (d := d) (W := W) (V := V) (p := p) (r := r) (x := 59) hB hL (by decide) (hS1.fr (I' := I1) (J' := u2 J1 1170 47 (k' : Nat)) (fun _ _ _ => rfl) (fun x y w => u2_ne _ _ (by omega)))
    refine ⟨I2, u2 J1 1170 47 (k' : Nat), J2, ?_, ?_, o397 s2, Fr.trans' pI s3'.pd, Fr.trans' pJ (Fr.trans' (fun x y w => u2_ne _ _ (fun t => w (by unfold PDm; omega))) s4.pd), ?_, St.o h2.2⟩
    · unfold D_X2_readCurve_13
      refine bdk ec ?_
      exact bdk y2T (bdk s1 rfl)
    · unfold D_X9_curve
      refine bdk em ?_
      exact bdk z9P rfl
    · rcases hE with ⟨a', ha, hc, hm⟩ | hE
      · obtain ⟨⟨i0, i1, i3, i4, i5, i8, i9⟩, j0, j1, j2, j45, j46⟩ := hi
        have fI : ∀ x y, x ≠ 111 ∨ (y = 8 ∨ y = 9) → I2 x y = I1 x y := fun x y w => s3' x y (by omega)
        have fI' : ∀ x y, (x = 111 ∧ (y = 8 ∨ y = 9)) ∨ (x = 112 ∧ y ≠ 2) → I2 x y = I x y := fun x y w => by rw [fI _ _ (by omega), f1 _ _ (by unfold PCc; omega)]
        have fJ : ∀ x y, x ≠ 1170 → J2 x y = J1 x y := fun x y w => by rw [s4 x y (by omega), u2_ne _ _ (by omega)]
        have fJ' : ∀ x y, x = 1173 ∨ (x = 1170 ∧ (y = 45 ∨ y = 46 ∨ y = 49)) → J2 x y = J x y := fun x y w => by rw [s4 x y (by omega), u2_ne _ _ (by omega), f2 _ _ (by unfold PCm; omega)]
        have t303 : TT J2 303 = (k' : Nat) := by rw [TT_303, s4 _ _ (by omega)]; exact u2_eq ..
        have t304 : TT J2 304 = 0 := by rw [TT_304, fJ' _ _ (by omega)]; exact j45
        have t305 : TT J2 305 = 0 := by rw [TT_305, fJ' _ _ (by omega)]; exact j46
        have t0 : TT J2 0 = 1 := by rw [TT_lo (by decide), fJ' _ _ (by omega)]; exact j0
        have t1 : TT J2 1 = 0 := by rw [TT_lo (by decide), fJ' _ _ (by omega)]; exact j1
        have t2 : TT J2 2 = 0 := by rw [TT_lo (by decide), fJ' _ _ (by omega)]; exact j2
        have ky : ∀ k, k < k' → TT J2 (310 + k) = J1 1224 k ∧ TT J2 (330 + k) = J1 1225 k := fun k hk => ⟨by rw [TT_y (by omega), fJ _ _ (by decide)], by rw [TT_a (by omega), fJ _ _ (by decide)]⟩
        refine Or.inl ⟨a', 0, 0, 0, ha, hc, hm, ⟨⟨by rw [fI' _ _ (by omega)]; exact i3, by rw [fI' _ _ (by omega)]; exact i4, by rw [fI' _ _ (by omega)]; exact i5, by omega, by omega, by omega⟩, ⟨by rw [fJ' _ _ (by omega)]; exact j45, by rw [fJ' _ _ (by omega)]; exact j46, by omega, fun k hk => absurd hk (by omega), fun k hk => absurd hk (by omega)⟩⟩, by rw [fJ' _ _ (by omega)]; exact j2, ⟨?_, fun k hk => ?_, fun s hs => ?_, fun s hs => ?_, fun s hs => ?_⟩, ⟨?_, ⟨fun k hk => ?_, fun k hk => ?_⟩, fun s hs => ?_, fun s hs => ?_, fun s hs => ?_⟩, ?_, ?_, ?_⟩
        · rw [t0, t1, t2, t303, t304, t305, fI' 112 0 (by omega), fI' 112 1 (by omega), fI' 112 3 (by omega), fI' 112 4 (by omega), fI' 112 5 (by omega), fI 112 2 (by omega)]
          exact ⟨i0, i1, i2, i3, i4, i5⟩
        · have hk' : k < k' := by unfold nKn at hk; rw [t303] at hk; exact hk
          have := hR.1 k hk'
          rw [(ky k hk').1, (ky k hk').2]
          show I2 113 k = _ ∧ I2 114 k = _
          rw [fI _ _ (by omega), fI _ _ (by omega)]
          exact this.1
        · unfold nSa at hs; rw [t304] at hs; exact absurd hs (Nat.not_lt_zero _)
        · unfold nPh at hs; rw [t305] at hs; exact absurd hs (Nat.not_lt_zero _)
        · unfold nRu at hs; rw [t2] at hs; exact absurd hs (Nat.not_lt_zero _)
        · unfold WFn
          rw [t0, t1, t2, t303, t304, t305]
          omega
        · rw [t303] at hk
          have hk' : k < k' := by omega
          have := hR.1 k hk'
          rw [(ky k hk').1, (ky k hk').2]
          exact this.2
        · rw [t303] at hk
          have hk' : k + 1 < k' := by omega
          rw [(ky k (by omega)).1, show 310 + k + 1 = 310 + (k + 1) by omega, (ky (k + 1) hk').1]
          exact hR.2.1 k hk'
        · rw [t304] at hs; omega
        · rw [t305] at hs; omega
        · rw [t2] at hs; omega
        · rw [fI' _ _ (by omega)]; exact Or.inl i8
        · rw [fI' _ _ (by omega)]; exact Or.inl i9
        · rw [fJ' _ _ (by omega), fI' _ _ (by omega), fI' _ _ (by omega), i8, i9]
          exact h49
      · exact Or.inr hE
  · refine ⟨I1, J1, J1, ?_, ?_, o397 (m_mustF hmf), pI, pJ, Or.inr ⟨_, _, hcf, hmf⟩, St.o h2.2⟩
    · unfold D_X2_readCurve_13
      refine bdk ec ?_
      exact bdk y2T (bdk (c_signF hL hcf) rfl)
    · unfold D_X9_curve
      exact bdk em rfl
  · have hcf := hcx.fl (k := 3) (pl := (a1 : Nat)) (by decide)
    refine ⟨cfl I1 3 (a1 : Nat), J1, J1, ?_, ?_, o397 (m_mustF hmf), Fr.trans' pI CC.fl.pd, pJ, Or.inr ⟨_, _, hcf, hmf⟩, St.o h2.2⟩
    · unfold D_X2_readCurve_13
      refine bdk ec ?_
      refine bdk y2I (bdk y2T ?_)
      rw [hcx.2.2.2.1]
      exact bdk (c_fail hcx.2.2.1) (bdk y2T (bdk (c_signF hL hcf) rfl))
    · unfold D_X9_curve
      exact bdk em rfl
/-- a second curve -/
theorem b_curve2 (hB : ∀ k, 0 ≤ B k ∧ B k < 256) (hL : L ≤ 500) (hD : DR B ns np nr I J) (h1 : CX B L a I) (h2 : MX B L a J) (hp : I 111 6 = J 1170 40) (e : D_X9_passes 1170 (2 + 6) (st true n d J0 V r) = some (1, st true n d J V r)) :
    ∃ I' J1 J', D_X2_readCurve 111 0 (st true n c I W p) = some (st true n c I' W p) ∧ D_X9_once 1170 (2 + 6) 0 (st true n d J0 V r) = some (1, st true n d J1 V r) ∧ ((gI (st true n d J1 V r) 1170 8 40).bind fun v42 => (tgO (st true n d J1 V r) 1170 8).bind fun _ => (D_X9_wrong 1170 3 v42 (st true n d J1 V r)).bind fun r43 => D_X9_oneLine_397 1170 r43) = some (st true n d J' V r) ∧ Out B L a I J I' J' := by
  obtain ⟨g, hg, g20⟩ := mFU_s
  obtain ⟨-, -, -, -, b1, b2, b3⟩ := id hD
  have bt := bits_of b1 b2
  rw [← b3] at bt
  obtain ⟨J1, e1, j49, fJ, g0, g1, -⟩ := m_once (f := 0) e h2 bt.1 (Or.inr rfl) bt.2.2.2.1
  have hm := g1 rfl
  have hcf := h1.fl (k := 3) (pl := I 111 6) (by decide)
  refine ⟨cfl I 3 (I 111 6), J1, J1, ?_, e1, bdk z9I (bdk z9T (bdk (m_wrongF hm) (o397 (m_mustF hm)))), CC.fl.pd, fun x y w => fJ x y (fun t => w (by unfold PNm at t; unfold PDm; omega)), Or.inr ⟨3, I 111 6, hcf, hp ▸ hm⟩, St.o h2.2⟩
  unfold D_X2_readCurve
  rw [if_neg (by decide)]
  refine bdk y2I (bdk y2T (bdk (c_fail h1.2.2.1) ?_))
  unfold D_X2_readCurve_13
  refine bdk (x := Sum.inr (Sum.inr (st true n c (cfl I 3 (I 111 6)) W p))) ?_ (bdk y2T (bdk (c_signF hL hcf) rfl))
  rw [hg]
  show (if 16 < (0 : Int) then _ else _) = _
  rw [if_neg (by decide)]
  refine bdk y2I ?_
  rw [if_pos hcf.nz]
theorem sg56 : ∀ f, D_X9_signed_56 f = D_X9_number_31 f := by
  intro f
  induction f with
  | zero => rfl
  | succ f ih =>
    funext x v σ
    simp only [D_X9_signed_56, D_X9_number_31, ih]
theorem cv_rng {j : Nat} : (0 ≤ cv B L j ∧ cv B L j ≤ 1000009) ∧ (cv B L j ≤ 500 ↔ rv B L j ≤ 500) ∧ (cv B L j ≤ 500 → cv B L j = rv B L j) := by
  have h := nvR_v (B := B) (L := L) (i := j)
  have h2 := nvR_ok (lo := 0) (hi := 500) h (by decide)
  unfold nvR at h
  omega
/-- the reserve's number -/
theorem t_r51 {y0 : Int} {s : Nat} (hB : ∀ k, 0 ≤ B k ∧ B k < 256) (hL : L ≤ 500) (hy : y0 = 0 ∨ y0 = 1) (h1 : CX B L b I) (h2 : MX B L b J) (hq : q ≤ b) :
    ∃ y w I' J', D_X2_readReserve_51 111 y0 (s : Nat) (st true n c I W p) = D_X2_readReserve_86 111 y 112 (st true n c I' W p) ∧ D_X9_signed_31 1170 y0 (s : Nat) (st true n d J V r) = some (w, st true n d J' V r) ∧ CC I I' ∧ MC J J' ∧ S2 B L q I' J' ∧ (J' 1170 42 = 0 → y = w ∧ -500 ≤ y ∧ y ≤ 500) := by
  obtain ⟨v, I1, e1, c1, vr, f1⟩ := c_num (n := n) (c := c) (W := W) (p := p) (lo := 0) (hi := 2147483647) hL h1
  have e2 := m_isDigit (n := n) (c := d) (W := V) (p := r) hB hL h2
  have hm1 : MX B L (sk B L b) (u2 J 1170 39 (sk B L b : Nat)) := MX.mv h2 (sk_le h2.1.2.2.2)
  generalize hJ1 : u2 J 1170 39 (sk B L b : Nat) = J1 at e2 hm1
  have c2 : MC J J1 := by rw [← hJ1]; exact MC.u (by omega)
  have ek : ∀ (y : Int) (I2 : Nat → Nat → Int), D_X2_readReserve_72 111 y0 y (st true n c I2 W p) = D_X2_readReserve_86 111 (if y0 = 0 then y else mw (-y)) 112 (st true n c I2 W p) := fun y I2 => by
    unfold D_X2_readReserve_72
    refine bdk y2R0 ?_
    by_cases z : y0 = 0
    · rw [if_pos z, if_pos z]
    · rw [if_neg z, if_neg z]
  have ek2 : ∀ (y : Int) (σ : mS), D_X9_signed_144 y0 y σ = some (if y0 = 0 then y else mw (-y), σ) := fun y σ => by
    unfold D_X9_signed_144 D_X9_signed_154
    by_cases z : y0 = 0
    · rw [if_pos z, if_pos z]
    · rw [if_neg z, if_neg z]
  have hr := cv_rng (B := B) (L := L) (j := sk B L b)
  cases hd : isDg B L (sk B L b) with
  | true =>
    rw [hd] at e2
    have hsl := (isDg_1 hd).1
    have f2 : v = cv B L (sk B L b) ∧ CX B L (de B L (sk B L b)) I1 := f1.elim (fun h => h.2) (fun h => absurd (show numOk B L (sk B L b) 0 2147483647 from ⟨hd, hr.1.1, by omega⟩) h.1)
    have e3 := m_dig (n := n) (c := d) (W := V) (p := r) hB hL (L - sk B L b) (sk B L b) mFU 0 J1 (by omega) (by unfold mFU; omega) hm1.1 (by decide)
    have e31 : ∀ R, D_X9_signed_131 1170 y0 (s : Nat) (rv B L (sk B L b)) (st true n d (u2 J1 1170 39 (de B L (sk B L b) : Nat)) V r) = R → D_X9_signed_31 1170 y0 (s : Nat) (st true n d J V r) = R := by
      intro R h
      unfold D_X9_signed_31
      refine bdk z9T (bdk e2 ?_)
      show (if (1 : Int) ≠ 0 then _ else _) = _
      rw [if_pos (by decide), sg56]
      exact bdk e3 h
    have hm2 : MX B L (de B L (sk B L b)) (u2 J1 1170 39 (de B L (sk B L b) : Nat)) := MX.mv hm1 (de_le (Nat.le_of_lt hsl))
    by_cases z : cv B L (sk B L b) ≤ 500
    · have z2 := hr.2.1.1 z
      have z3 := hr.2.2 z
      refine ⟨if y0 = 0 then v else mw (-v), if y0 = 0 then v else mw (-v), I1, u2 J1 1170 39 (de B L (sk B L b) : Nat), ?_, e31 _ ?_, c1, c2.t (MC.u (by omega)), Or.inl ⟨_, _, ?_, rfl, f2.2, hm2⟩, fun _ => ⟨rfl, ?_⟩⟩
      · unfold D_X2_readReserve_51
        refine bdk y2T (bdk e1 ?_)
        rw [if_pos (by rw [f2.1]; exact z)]
        exact ek _ _
      · unfold D_X9_signed_131
        rw [if_pos z2, ek2, f2.1, z3]
      · exact Nat.le_trans hq (Nat.le_trans sk_ge (Nat.le_trans (Nat.le_of_lt (de_gt hd)) sk_ge))
      · rw [f2.1]
        split
        · omega
        · rw [mw_of (by omega) (by omega)]; omega
    · have z2 : ¬ rv B L (sk B L b) ≤ 500 := fun w => z (hr.2.1.2 w)
      refine ⟨if y0 = 0 then v else mw (-v), if y0 = 0 then rv B L (sk B L b) else mw (-(rv B L (sk B L b))), cfl I1 2 (s : Nat), wro (u2 J1 1170 39 (de B L (sk B L b) : Nat)) 2 (s : Nat), ?_, e31 _ ?_, c1.t CC.fl, c2.t ((MC.u (by omega)).t MC.w), Or.inr ⟨2, _, f2.2.fl (by decide), hm2.wr (by decide)⟩, fun w => absurd w ((hm2.wr (k := 2) (pl := (s : Nat)) (by decide)).nz)⟩
      · unfold D_X2_readReserve_51
        refine bdk y2T (bdk e1 ?_)
        rw [if_neg (by rw [f2.1]; exact z)]
        exact bdk y2T (bdk (c_fail f2.2.2.2.1) (ek _ _))
      · unfold D_X9_signed_131
        rw [if_neg z2]
        exact bdk z9T (bdk (m_wrong hm2.2) (ek2 _ _))
  | false =>
    rw [hd] at e2
    have f2 : CF B L 1 (sk B L b : Nat) I1 := f1.elim (fun h => absurd h.1.1 (by rw [hd]; decide)) (fun h => by have := h.2; unfold numK at this; rw [hd, if_neg (by decide)] at this; exact this)
    have e3 := m_sign (n := n) (c := d) (W := V) (p := r) hB hL hm1.1
    have hm2 : MX B L (sk B L (sk B L b)) (u2 J1 1170 39 (sk B L (sk B L b) : Nat)) := MX.mv hm1 (sk_le hm1.1.2.2.2)
    rw [sk_sk] at e3 hm2
    refine ⟨if y0 = 0 then v else mw (-v), 0, I1, wro (u2 J1 1170 39 (sk B L b : Nat)) 1 (sk B L b : Nat), ?_, ?_, c1, c2.t ((MC.u (by omega)).t MC.w), Or.inr ⟨1, _, f2, hm2.wr (by decide)⟩, fun w => absurd w ((hm2.wr (k := 1) (pl := (sk B L b : Nat)) (by decide)).nz)⟩
    · unfold D_X2_readReserve_51
      refine bdk y2T (bdk e1 ?_)
      by_cases z : v ≤ 500
      · rw [if_pos z]
        exact ek _ _
      · rw [if_neg z]
        exact bdk y2T (bdk (c_failF f2.nz) (ek _ _))
    · unfold D_X9_signed_31
      refine bdk z9T (bdk e2 ?_)
      show (if (0 : Int) ≠ 0 then _ else _) = _
      rw [if_neg (by decide)]
      refine bdk z9T (bdk e3 (bdk z9I ?_))
      rw [hm2.1.2.2.1]
      exact bdk z9T (bdk (m_wrong hm2.2) rfl)
theorem t_r16 (hB : ∀ k, 0 ≤ B k ∧ B k < 256) (hL : L ≤ 500) (hS : (∃ a, q ≤ a ∧ CX B L a (u2 I 111 9 1) ∧ MX B L a J) ∨ Bad B L (u2 I 111 9 1) J) :
    ∃ y w I' J', D_X2_readReserve_16 111 (st true n c I W p) = D_X2_readReserve_86 111 y 112 (st true n c I' W p) ∧ D_X9_signed 1170 (st true n d J V r) = some (w, st true n d J' V r) ∧ CC (u2 I 111 9 1) I' ∧ MC J J' ∧ S2 B L q I' J' ∧ (J' 1170 42 = 0 → y = w ∧ -500 ≤ y ∧ y ≤ 500) := by
  rcases hS with ⟨a, hq, h1, h2⟩ | ⟨k0, pl, h1, h2⟩
  · have e1 := c_peek (n := n) (c := c) (W := W) (p := p) hL h1
    have e2 := m_isSign (n := n) (c := d) (W := V) (p := r) (x := 45) hB hL (by decide) h2
    have hc : CX B L (sk B L a) (u2 (u2 I 111 9 1) 111 5 (sk B L a : Nat)) := CX.mv h1 (sk_le h1.2.2.2.2)
    have hm : MX B L (sk B L a) (u2 J 1170 39 (sk B L a : Nat)) := MX.mv h2 (sk_le h1.2.2.2.2)
    have e3 := m_sign (n := n) (c := d) (W := V) (p := r) hB hL hm.1
    have hm2 : MX B L (sk B L (sk B L a)) (u2 (u2 J 1170 39 (sk B L a : Nat)) 1170 39 (sk B L (sk B L a) : Nat)) := MX.mv hm (sk_le (sk_le h1.2.2.2.2))
    rw [sk_sk, u2_u2] at e3 hm2
    have c1 : CC (u2 I 111 9 1) (u2 (u2 I 111 9 1) 111 5 (sk B L a : Nat)) := CC.u (by omega)
    have d1 : MC J (u2 J 1170 39 (sk B L a : Nat)) := MC.u (by omega)
    generalize u2 (u2 I 111 9 1) 111 5 (sk B L a : Nat) = I1 at e1 hc c1
    generalize u2 J 1170 39 (sk B L a : Nat) = J1 at e2 e3 hm hm2 d1
    by_cases z : pk B L (sk B L a) = 45
    · obtain ⟨I2, u1, u2', u3⟩ := c_sign (n := n) (c := c) (W := W) (p := p) (x := 45) hL (by decide) hc
      rw [sk_sk] at u3
      have hcx : CX B L (sk B L a + 1) I2 := u3.elim (fun h => h.2) (fun h => absurd z h.1)
      have hsl : sk B L a + 1 ≤ L := hcx.2.2.2.2
      have hmx : MX B L (sk B L a + 1) (u2 J1 1170 39 ((sk B L a + 1 : Nat) : Int)) := MX.mv hm hsl
      obtain ⟨y, w, I3, J3, y1, y2, y3, y4, y5, y6⟩ := t_r51 (n := n) (c := c) (d := d) (W := W) (V := V) (p := p) (r := r) (q := q) (y0 := 1) (s := sk B L a) hB hL (Or.inr rfl) hcx hmx (by have := sk_ge (B := B) (L := L) (i := a); omega)
      refine ⟨y, w, I3, J3, ?_, ?_, c1.t (u2'.t y3), d1.t ((MC.u (by omega)).t y4), y5, y6⟩
      · unfold D_X2_readReserve_16
        refine bdk (y2B (Or.inr rfl)) (bdk y2T (bdk e1 ?_))
        rw [if_neg (fun w => w z)]
        unfold D_X2_readReserve_35
        refine bdk y2I ?_
        rw [hc.2.2.2.1, if_neg (by decide)]
        exact bdk y2T (bdk u1 y1)
      · unfold D_X9_signed
        refine bdk z9T (bdk e2 (bdk z9T (bdk e3 (bdk z9I ?_))))
        rw [hm.1.2.2.1, decide_eq_true z]
        show (if (1 : Int) = 0 then _ else _) = _
        rw [if_neg (by decide)]
        refine bdk z9I ?_
        rw [hm.1.2.2.1, mw_n (by omega)]
        exact bdk z9P y2
    · obtain ⟨y, w, I3, J3, y1, y2, y3, y4, y5, y6⟩ := t_r51 (n := n) (c := c) (d := d) (W := W) (V := V) (p := p) (r := r) (q := q) (y0 := 0) (s := sk B L a) hB hL (Or.inl rfl) hc hm (Nat.le_trans hq sk_ge)
      refine ⟨y, w, I3, J3, ?_, ?_, c1.t y3, d1.t y4, y5, y6⟩
      · unfold D_X2_readReserve_16
        refine bdk (y2B (Or.inr rfl)) (bdk y2T (bdk e1 ?_))
        rw [if_pos z]
        unfold D_X2_readReserve_35
        refine bdk y2I ?_
        rw [hc.2.2.2.1, if_pos rfl]
        exact y1
      · unfold D_X9_signed
        refine bdk z9T (bdk e2 (bdk z9T (bdk e3 (bdk z9I ?_))))
        rw [hm.1.2.2.1, decide_eq_false z]
        show (if (0 : Int) = 0 then _ else _) = _
        rw [if_pos rfl]
        exact y2
  · obtain ⟨x, e1⟩ := c_peekF (n := n) (c := c) (W := W) (p := p) hL h1
    have en := c_numF (n := n) (c := c) (W := W) (p := p) (lo := 0) (hi := 2147483647) hL h1
    have es := c_signF (n := n) (c := c) (W := W) (p := p) (x := 45) hL h1
    have f51 : ∀ (y0 : Int) (s : Int), D_X2_readReserve_51 111 y0 s (st true n c (u2 I 111 9 1) W p) = D_X2_readReserve_86 111 0 112 (st true n c (u2 I 111 9 1) W p) := by
      intro y0 s
      unfold D_X2_readReserve_51 D_X2_readReserve_72
      refine bdk y2T (bdk en ?_)
      rw [if_pos (show (0 : Int) ≤ 500 by decide)]
      refine bdk y2R0 ?_
      by_cases z : y0 = 0
      · rw [if_pos z]
      · rw [if_neg z]
        rfl
    obtain ⟨⟨b0, hb⟩, h3, h4⟩ := id h2
    have g1 := m_sign (n := n) (c := d) (W := V) (p := r) hB hL hb
    have hf1 : MF B L k0 pl (u2 J 1170 39 (sk B L b0 : Nat)) := MF.mv h2 (sk_le hb.2.2.2)
    obtain ⟨⟨b1, hb1⟩, -⟩ := id hf1
    have g2 := m_sign (n := n) (c := d) (W := V) (p := r) hB hL hb1
    have hf2 : MF B L k0 pl (u2 (u2 J 1170 39 (sk B L b0 : Nat)) 1170 39 (sk B L b1 : Nat)) := MF.mv hf1 (sk_le hb1.2.2.2)
    refine ⟨0, 0, u2 I 111 9 1, u2 (u2 J 1170 39 (sk B L b0 : Nat)) 1170 39 (sk B L b1 : Nat), ?_, ?_, CC.r, (MC.u (by omega)).t (MC.u (by omega)), Or.inr ⟨k0, pl, h1, hf2⟩, fun w => absurd w hf2.nz⟩
    · unfold D_X2_readReserve_16
      refine bdk (y2B (Or.inr rfl)) (bdk y2T (bdk e1 ?_))
      unfold D_X2_readReserve_35
      by_cases z : x ≠ 45
      · rw [if_pos z]
        refine bdk y2I ?_
        rw [if_pos rfl]
        exact f51 _ _
      · rw [if_neg z]
        refine bdk y2I ?_
        rw [if_neg (by decide)]
        exact bdk y2T (bdk es (f51 _ _))
    · unfold D_X9_signed
      refine bdk z9T (bdk (m_isSignF h2) (bdk z9T (bdk g1 (bdk z9I ?_))))
      show (if (0 : Int) = 0 then _ else _) = _
      rw [if_pos rfl]
      unfold D_X9_signed_31
      refine bdk z9T (bdk (m_isDigitF hf1) ?_)
      show (if (0 : Int) ≠ 0 then _ else _) = _
      rw [if_neg (by decide)]
      exact bdk z9T (bdk g2 (bdk z9I (bdk z9T (bdk (m_wrongF hf2) rfl))))
/-- the reserve -/
theorem b_reserve (hB : ∀ k, 0 ≤ B k ∧ B k < 256) (hL : L ≤ 500) (hD : DR B ns np nr I J) (h1 : CX B L a I) (h2 : MX B L a J) (hp : I 111 6 = J 1170 40) (e : D_X9_passes 1170 (2 + 11) (st true n d J0 V r) = some (1, st true n d J V r)) :
    ∃ I' J1 J', D_X2_readReserve 111 (st true n c I W p) = some (st true n c I' W p) ∧ D_X9_once 1170 (2 + 11) 2 (st true n d J0 V r) = some (1, st true n d J1 V r) ∧ ((D_X9_signed 1170 (st true n d J1 V r)).bind fun r17 => (sI r17.2 1173 1 r17.1).bind fun s18 => D_X9_oneLine_397 1170 s18) = some (st true n d J' V r) ∧ Out B L a I J I' J' := by
  obtain ⟨-, -, -, -, b1, b2, b3⟩ := id hD
  have bt := bits_of b1 b2
  rw [← b3] at bt
  obtain ⟨J1, e1, j49, fJ, g0, g1, -⟩ := m_once (f := 2) e h2 bt.2.2.1 b2 bt.2.2.2.2.2
  have j : ∀ x y, ¬ (PNm x y ∨ (x = 1170 ∧ y = 49)) → J1 x y = J x y := fJ
  have hI : ∃ I1, D_X2_readReserve 111 (st true n c I W p) = D_X2_readReserve_16 111 (st true n c I1 W p) ∧ CC I I1 ∧ (I 111 9 = 0 → I1 = I) ∧ (I 111 9 = 1 → CF B L 3 (I 111 6) I1) := by
    unfold D_X2_readReserve
    rcases b2 with z | z
    · exact ⟨I, bdk y2I (if_pos z), CC.r, fun _ => rfl, fun w => by omega⟩
    · refine ⟨cfl I 3 (I 111 6), bdk y2I ?_, CC.fl, fun w => by omega, fun _ => h1.fl (by decide)⟩
      rw [if_neg (by omega)]
      exact bdk y2I (bdk y2T (bdk (c_fail h1.2.2.1) rfl))
  obtain ⟨I1, eI, cI, i0, i1⟩ := hI
  obtain ⟨v, w, I2, J2, a1, a2, a3, a4, a5, a6⟩ := t_r16 (n := n) (c := c) (d := d) (W := W) (V := V) (p := p) (r := r) (q := a) (I := I1) (J := J1) hB hL (by
    rcases b2 with z | z
    · rw [i0 z]
      exact Or.inl ⟨a, Nat.le_refl a, h1.fr (fun x y w => u2_ne _ _ (by omega)), g0 z⟩
    · refine Or.inr ⟨3, I 111 6, (i1 z).fr (fun x y w => u2_ne _ _ (by omega)), ?_⟩
      rw [hp]
      exact g1 z)
  have hS2 := a5.fr (I' := u2 I2 112 1 v) (J' := u2 J2 1173 1 w) (fun x y z => u2_ne _ _ (by omega)) (fun x y z => u2_ne _ _ (by omega))
  obtain ⟨I3, J3, s1, s2, s3', s4, hE, hZ, hSt⟩ := t_sign (n := n) (c := c) (d := d) (W := W) (V := V) (p := p) (r := r) (x := 59) hB hL (by decide) hS2
  refine ⟨I3, J1, J3, ?_, e1, ?_, ?_, ?_, ?_, St.o h2.2⟩
  · rw [eI, a1]
    unfold D_X2_readReserve_86
    exact bdk (t5P TB112) (bdk y2T (bdk s1 rfl))
  · exact bdk a2 (bdk (s3 (i := 1) (by decide)) (o397 s2))
  · exact Fr.trans' cI.pd (Fr.trans' (fun x y z => u2_ne _ _ (fun w => z (by unfold PDc; omega))) (Fr.trans' a3.pd (Fr.trans' (fun x y z => u2_ne _ _ (fun w => z (by unfold PDc; omega))) s3'.pd)))
  · exact Fr.trans' (fun x y z => j x y (fun w => z (by unfold PNm at w; unfold PDm; omega))) (Fr.trans' a4.pd (Fr.trans' (fun x y z => u2_ne _ _ (fun w => z (by unfold PDm; omega))) s4.pd))
  · rcases hE with ⟨a', ha, hc, hm⟩ | hE
    · have z2 : J2 1170 42 = 0 := by
        have := hZ hm.2
        rw [u2_ne _ _ (by omega)] at this
        exact this
      obtain ⟨rfl, v1, v2⟩ := a6 z2
      have i9 : I3 111 9 = 1 := by rw [s3' _ _ (by omega), u2_ne _ _ (by omega), a3 _ _ (by omega)]; exact u2_eq ..
      have i8 : I3 111 8 = I 111 8 := by rw [s3' _ _ (by omega), u2_ne _ _ (by omega), a3 _ _ (by omega), u2_ne _ _ (by omega), cI _ _ (by omega)]
      refine Or.inl ⟨a', ns, np, nr, ha, hc, hm, hD.V (f := 1) (v := v) (by decide) ?_ ?_ i9 ?_ ?_ ?_ ⟨fun z => absurd z (by decide), fun _ => ⟨v1, v2⟩⟩⟩
      · intro x y z
        rw [s3' _ _ (by omega), u2_ne _ _ (by omega), a3 _ _ (by omega), u2_ne _ _ (by omega), cI _ _ (by omega)]
      · intro x y z
        rw [s4 _ _ (by unfold PNm at z; omega), u2_ne _ _ (by omega), a4 _ _ (by unfold PNm at z; omega), j _ _ (fun w => z (w.elim Or.inl (fun u => Or.inr (Or.inl u))))]
      · rw [i8, i9, s4 _ _ (by omega), u2_ne _ _ (by omega), a4 _ _ (by omega)]
        exact j49
      · rw [s3'.ne (by decide)]; exact u2_eq ..
      · rw [s4 _ _ (by omega)]; exact u2_eq ..
    · exact Or.inr hE
end CW
