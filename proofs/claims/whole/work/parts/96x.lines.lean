/-! THE PURE PART: the sigma's, the reserve's, a sample's line, on both sides -/
section LI
variable {n : Nat} {c d : Nat × Nat × Nat × Nat} {I J I' J' I0 J0 : Nat → Nat → Int} {W V : Nat → Nat → BitVec 64} {p r : Nat → Nat} {B : Nat → Int} {L q m ns np nr a b : Nat} {k pl : Int} {vs : Nat → Int}
theorem bits_of {x y : Int} (hx : x = 0 ∨ x = 1) (hy : y = 0 ∨ y = 1) : mand (mshr (1 + 2 * x + 4 * y) 0) 1 = 1 ∧ mand (mshr (1 + 2 * x + 4 * y) 1) 1 = x ∧ mand (mshr (1 + 2 * x + 4 * y) 2) 1 = y ∧ mor (1 + 2 * x + 4 * y) (mshl 1 0) = 1 + 2 * x + 4 * y ∧ mor (1 + 2 * x + 4 * y) (mshl 1 1) = 1 + 2 * 1 + 4 * y ∧ mor (1 + 2 * x + 4 * y) (mshl 1 2) = 1 + 2 * x + 4 * 1 := by
  rcases hx with rfl | rfl <;> rcases hy with rfl | rfl <;> decide +kernel
/-- a word that may stand once -/
theorem m_once {i f : Nat} {t v' : Int} (e : D_X9_passes 1170 (2 + i) (st true n d J0 V r) = some (1, st true n d J V r)) (h : MX B L b J) (h1 : mand (mshr (J 1170 49) (f : Nat)) 1 = t) (ht : t = 0 ∨ t = 1) (h2 : mor (J 1170 49) (mshl 1 (f : Nat)) = v') :
    ∃ J', D_X9_once 1170 (2 + i) (f : Nat) (st true n d J0 V r) = some (1, st true n d J' V r) ∧ J' 1170 49 = v' ∧ Fr (fun x y => PNm x y ∨ (x = 1170 ∧ y = 49)) J J' ∧ (t = 0 → MX B L b J') ∧ (t = 1 → MF B L 3 (J 1170 40) J') ∧ (∀ y, y = 40 → J' 1170 y = J 1170 y) := by
  unfold D_X9_once D_X9_once_31
  rcases ht with rfl | rfl
  · refine ⟨u2 J 1170 49 v', bdk z9T (bdk e ?_), u2_eq .., fun x y w => u2_ne _ _ (fun z => w (Or.inr z)), fun _ => h.fr (fun x y w => u2_ne _ _ (by omega)), fun z => absurd z (by decide), fun y hy => u2_ne _ _ (by omega)⟩
    show (if (1 : Int) ≠ 0 then _ else _) = _
    rw [if_pos (by decide)]
    refine bdk z9I ?_
    rw [h1, if_pos (by decide)]
    refine bdk z9I ?_
    rw [h2]
    exact bdk z9P (bdk (x := (1 : Int)) rfl rfl)
  · have hf := h.wr (k := 3) (pl := J 1170 40) (by decide)
    have e49 : wro J 3 (J 1170 40) 1170 49 = J 1170 49 := MC.w _ _ (by omega)
    refine ⟨u2 (wro J 3 (J 1170 40)) 1170 49 v', bdk z9T (bdk e ?_), u2_eq .., fun x y w => (u2_ne _ _ (fun z => w (Or.inr z))).trans (MC.w _ _ (fun z => w (Or.inl (Or.inl z)))), fun z => absurd z (by decide), fun _ => hf.fr (fun x y w => u2_ne _ _ (by omega)), fun y hy => by subst hy; rw [u2_ne _ _ (by omega)]; unfold wro; rw [u2_ne _ _ (by omega), u2_ne _ _ (by omega)]⟩
    show (if (1 : Int) ≠ 0 then _ else _) = _
    rw [if_pos (by decide)]
    refine bdk z9I ?_
    rw [h1, if_neg (by decide)]
    refine bdk z9I (bdk z9T (bdk (m_wrong h.2) (bdk z9I ?_)))
    rw [e49, h2]
    exact bdk z9P (bdk (x := (1 : Int)) rfl rfl)
theorem o397 {J2 : Nat → Nat → Int} (e : D_X9_must 1170 59 (st true n d J V r) = some (st true n d J2 V r)) : D_X9_oneLine_397 1170 (st true n d J V r) = some (st true n d J2 V r) := bdk z9T (bdk e rfl)
theorem oi_x : ∀ x y : Nat, x = 109 ∨ (x = 111 ∧ y ≤ 5) → x ≠ 112 ∧ ¬ (x = 111 ∧ 6 ≤ y) := fun x y h => by omega
/-- the sigma -/
theorem b_sigma (hB : ∀ k, 0 ≤ B k ∧ B k < 256) (hL : L ≤ 500) (hD : DR B ns np nr I J) (h1 : CX B L a I) (h2 : MX B L a J) (hp : I 111 6 = J 1170 40) (e : D_X9_passes 1170 (2 + 10) (st true n d J0 V r) = some (1, st true n d J V r)) :
    ∃ I' J1 J', D_X2_readSigma 111 (st true n c I W p) = some (st true n c I' W p) ∧ D_X9_once 1170 (2 + 10) 1 (st true n d J0 V r) = some (1, st true n d J1 V r) ∧ ((D_X9_number 1170 1 3 (st true n d J1 V r)).bind fun r20 => (sI r20.2 1173 0 r20.1).bind fun s21 => D_X9_oneLine_397 1170 s21) = some (st true n d J' V r) ∧ Out B L a I J I' J' := by
  obtain ⟨-, -, -, -, b1, b2, b3⟩ := id hD
  have bt := bits_of b1 b2
  rw [← b3] at bt
  obtain ⟨J1, e1, j49, fJ, g0, g1, -⟩ := m_once (f := 1) e h2 bt.2.1 b1 bt.2.2.2.2.1
  have j : ∀ x y, ¬ (PNm x y ∨ (x = 1170 ∧ y = 49)) → J1 x y = J x y := fJ
  have hI : ∃ I1, D_X2_readSigma 111 (st true n c I W p) = D_X2_readSigma_16 111 (st true n c I1 W p) ∧ CC I I1 ∧ (I 111 8 = 0 → I1 = I) ∧ (I 111 8 = 1 → CF B L 3 (I 111 6) I1) := by
    unfold D_X2_readSigma
    rcases b1 with z | z
    · exact ⟨I, bdk y2I (if_pos z), CC.r, fun _ => rfl, fun w => by omega⟩
    · refine ⟨cfl I 3 (I 111 6), bdk y2I ?_, CC.fl, fun w => by omega, fun _ => h1.fl (by decide)⟩
      rw [if_neg (by omega)]
      exact bdk y2I (bdk y2T (bdk (c_fail h1.2.2.1) rfl))
  obtain ⟨I1, eI, cI, i0, i1⟩ := hI
  have hS : S2 B L a (u2 I1 111 8 1) J1 := by
    rcases b1 with z | z
    · rw [i0 z]
      exact Or.inl ⟨a, a, sk_ge, rfl, h1.fr (fun x y w => u2_ne _ _ (by omega)), g0 z⟩
    · refine Or.inr ⟨3, I 111 6, (i1 z).fr (fun x y w => u2_ne _ _ (by omega)), ?_⟩
      rw [hp]
      exact g1 z
  obtain ⟨v, w, I2, J2, a1, a2, a3, a4, a5, a6, a7, -⟩ := t_num (n := n) (c := c) (d := d) (W := W) (V := V) (p := p) (r := r) (l1 := 1) (l2 := 1) (hi := 3) hB hL (by decide) hS (fun _ => rfl)
  have hS2 := a5.fr (I' := u2 I2 112 0 v) (J' := u2 J2 1173 0 w) (fun x y z => u2_ne _ _ (by omega)) (fun x y z => u2_ne _ _ (by omega))
  obtain ⟨I3, J3, s1, s2, s3', s4, hE, hZ, hSt⟩ := t_sign (n := n) (c := c) (d := d) (W := W) (V := V) (p := p) (r := r) (x := 59) hB hL (by decide) hS2
  refine ⟨I3, J1, J3, ?_, e1, ?_, ?_, ?_, ?_, St.o h2.2⟩
  · rw [eI]
    unfold D_X2_readSigma_16
    exact bdk (y2B (Or.inr rfl)) (bdk y2R0 (bdk y2T (bdk a1 (bdk (t5P TB112) (bdk y2T (bdk s1 rfl))))))
  · exact bdk a2 (bdk (s3 (i := 0) (by decide)) (o397 s2))
  · exact Fr.trans' cI.pd (Fr.trans' (fun x y z => u2_ne _ _ (fun w => z (by unfold PDc; omega))) (Fr.trans' a3.pd (Fr.trans' (fun x y z => u2_ne _ _ (fun w => z (by unfold PDc; omega))) s3'.pd)))
  · exact Fr.trans' (fun x y z => j x y (fun w => z (by unfold PNm at w; unfold PDm; omega))) (Fr.trans' a4.pd (Fr.trans' (fun x y z => u2_ne _ _ (fun w => z (by unfold PDm; omega))) s4.pd))
  · rcases hE with ⟨a', ha, hc, hm⟩ | hE
    · have z2 : J2 1170 42 = 0 := by
        have := hZ hm.2
        rw [u2_ne _ _ (by omega)] at this
        exact this
      obtain ⟨rfl, v1, v2⟩ := a6 z2
      have i8 : I3 111 8 = 1 := by rw [s3' _ _ (by omega), u2_ne _ _ (by omega), a3 _ _ (by omega)]; exact u2_eq ..
      have i9 : I3 111 9 = I 111 9 := by rw [s3' _ _ (by omega), u2_ne _ _ (by omega), a3 _ _ (by omega), u2_ne _ _ (by omega), cI _ _ (by omega)]
      refine Or.inl ⟨a', ns, np, nr, ha, hc, hm, hD.V (f := 0) (v := v) (by decide) ?_ ?_ i8 ?_ ?_ ?_ ⟨fun _ => ⟨v1, v2⟩, fun z => absurd z (by decide)⟩⟩
      · intro x y z
        rw [s3' _ _ (by omega), u2_ne _ _ (by omega), a3 _ _ (by omega), u2_ne _ _ (by omega), cI _ _ (by omega)]
      · intro x y z
        rw [s4 _ _ (by unfold PNm at z; omega), u2_ne _ _ (by omega), a4 _ _ (by unfold PNm at z; omega), j _ _ (fun w => z (w.elim Or.inl (fun u => Or.inr (Or.inl u))))]
      · rw [i8, i9, s4 _ _ (by omega), u2_ne _ _ (by omega), a4 _ _ (by omega)]
        exact j49
      · rw [s3'.ne (by decide)]; exact u2_eq ..
      · rw [s4 _ _ (by omega)]; exact u2_eq ..
    · exact Or.inr hE
theorem m_set {w : Nat} {x : Int} (h45 : J 1170 45 = (ns : Nat)) (hs : ns < 12) (hw : w < 15) : D_X9_setSample 1170 (w : Int) x (st true n d J V r) = some (st true n d (u2 J 1173 (123 + 15 * ns + w) x) V r) := by
  unfold D_X9_setSample
  refine bdk z9R3 (bdk z9I ?_)
  rw [h45, show mw (mw (123 + mw (15 * (ns : Int))) + (w : Int)) = ((123 + 15 * ns + w : Nat) : Int) by rw [mw_of (x := 15 * (ns : Int)) (by omega) (by omega), mw_of (x := 123 + 15 * (ns : Int)) (by omega) (by omega), mw_of (by omega) (by omega)]; omega]
  exact bdk (s3 (by omega)) rfl
/-- a sample of a date -/
theorem b_dated (hB : ∀ k, 0 ≤ B k ∧ B k < 256) (hL : L ≤ 500) (hD : DR B ns np nr I J) (h1 : CX B L a I) (h2 : MX B L a J) (h48 : J 1170 48 = 0) (hp : I 111 6 = J 1170 40) :
    ∃ I' J1 J', D_X2_readSample 111 (st true n c I W p) = some (st true n c I' W p) ∧ D_X9_dated 1170 (st true n d J V r) = some (st true n d J1 V r) ∧ D_X9_oneLine_397 1170 (st true n d J1 V r) = some (st true n d J' V r) ∧ Out B L a I J I' J' := by
  have n3 := hD.1.1.1
  have m45 := hD.1.2.1
  have s12 := hD.1.1.2.2.2.1
  by_cases hs : ns < 12
  · obtain ⟨v, I1, J1, a1, a2, a3, a4, a5, a6⟩ := t_new (n := n) (c := c) (d := d) (W := W) (V := V) (p := p) (r := r) (row := ns) hB hL (by omega) h1 h2 h48 hD.1 (Nat.le_refl a)
    have p1 : J1 1170 45 = (ns : Nat) := by rw [a4 _ _ (by unfold PFr; omega)]; exact m45
    have e1 := m_set (n := n) (d := d) (V := V) (r := r) (J := J1) (w := 0) (x := 0) p1 hs (by decide)
    obtain ⟨v1, w1, I2, J3, b1, b2, b3, b4, b5, b6, b7, -⟩ := t_num (n := n) (c := c) (d := d) (W := W) (V := V) (p := p) (r := r) (l1 := 0) (l2 := 0) (hi := 9999) hB hL (by decide) (a5.s.fr (I' := I1) (J' := u2 J1 1173 (123 + 15 * ns + 0) 0) (fun _ _ _ => rfl) (fun x y z => u2_ne _ _ (by omega))) (fun _ => rfl)
    have p3 : J3 1170 45 = (ns : Nat) := by rw [b4 _ _ (by omega), u2_ne _ _ (by omega)]; exact p1
    have e3 := m_set (n := n) (d := d) (V := V) (r := r) (J := J3) (w := 1) (x := w1) p3 hs (by decide)
    obtain ⟨v2, w2, I3, J5, c1, c2, c3, c4, c5, c6, c7, -⟩ := t_num (n := n) (c := c) (d := d) (W := W) (V := V) (p := p) (r := r) (l1 := 0) (l2 := 0) (hi := 999) hB hL (by decide) (b5.fr (I' := I2) (J' := u2 J3 1173 (123 + 15 * ns + 1) w1) (fun _ _ _ => rfl) (fun x y z => u2_ne _ _ (by omega))) (fun _ => rfl)
    have p5 : J5 1170 45 = (ns : Nat) := by rw [c4 _ _ (by omega), u2_ne _ _ (by omega)]; exact p3
    have e5 := m_set (n := n) (d := d) (V := V) (r := r) (J := J5) (w := 2) (x := w2) p5 hs (by decide)
    generalize hJ6 : u2 J5 1173 (123 + 15 * ns + 2) w2 = J6 at e5
    have p6 : J6 1170 45 = (ns : Nat) := by rw [← hJ6, u2_ne _ _ (by omega)]; exact p5
    have hinc : ∃ J7, ((gI (st true n d J6 V r) 1170 8 42).bind fun v9 => if v9 ≠ 0 then D_X9_dated_83 (st true n d J6 V r) else (gI (st true n d J6 V r) 1170 8 45).bind fun v10 => (pI (st true n d J6 V r) 1170 8 45 (mw (v10 + 1))).bind fun s11 => D_X9_dated_83 s11) = some (st true n d J7 V r) ∧ Fr (fun x y => x = 1170 ∧ y = 45) J6 J7 ∧ (J7 1170 42 = 0 → J7 1170 45 = ((ns + 1 : Nat) : Int)) := by
      by_cases z : J6 1170 42 = 0
      · refine ⟨u2 J6 1170 45 ((ns + 1 : Nat) : Int), bdk z9I ?_, fun x y w => u2_ne _ _ w, fun _ => u2_eq ..⟩
        rw [if_neg (fun w => w z)]
        refine bdk z9I ?_
        rw [p6, mw_n (by omega)]
        exact bdk z9P rfl
      · exact ⟨J6, bdk z9I (if_pos z), fun _ _ _ => rfl, fun w => absurd w z⟩
    obtain ⟨J7, e7, f7, g7⟩ := hinc
    obtain ⟨I4, J8, s1, s2, s3', s4, hE, hZ, -⟩ := t_sign (n := n) (c := c) (d := d) (W := W) (V := V) (p := p) (r := r) (x := 59) hB hL (by decide) (c5.fr (I' := I3) (J' := J7) (fun _ _ _ => rfl) (fun x y z => by rw [f7 _ _ (by omega), ← hJ6, u2_ne _ _ (by omega)]))
    have cA : CC I I4 := a3.t (b3.t (c3.t s3'))
    have n3' : I4 112 3 = (ns : Nat) := by rw [cA.ne (by decide)]; exact n3
    generalize hK : u2 (u2 (u2 I4 (112 + 6 + 3 * ns) 0 0) (112 + 6 + 3 * ns) 1 v1) (112 + 6 + 3 * ns) 2 v2 = K
    have k3 : K 112 3 = (ns : Nat) := by rw [← hK, u2_ne _ _ (by omega), u2_ne _ _ (by omega), u2_ne _ _ (by omega)]; exact n3'
    have k3' : u2 K 186 ns v 112 3 = (ns : Nat) := by rw [u2_ne _ _ (by omega)]; exact k3
    have fK : ∀ x y, ¬ (x = 118 + 3 * ns) → K x y = I4 x y := fun x y z => by rw [← hK, u2_ne _ _ (by omega), u2_ne _ _ (by omega), u2_ne _ _ (by omega)]
    have f5 : ∀ x y, ¬ (x = 118 + 3 * ns ∨ (x = 186 ∧ y = ns) ∨ (x = 112 ∧ y = 3)) → u2 (u2 K 186 ns v) 112 3 ((ns + 1 : Nat) : Int) x y = I4 x y := fun x y z => by rw [u2_ne _ _ (by omega), u2_ne _ _ (by omega)]; exact fK _ _ (by omega)
    refine ⟨u2 (u2 K 186 ns v) 112 3 ((ns + 1 : Nat) : Int), J7, J8, ?_, ?_, o397 s2, ?_, ?_, ?_, St.o h2.2⟩
    · unfold D_X2_readSample
      refine bdk y2R0 (bdk (t5I TB112) ?_)
      rw [n3, if_pos (by omega)]
      refine bdk y2T (bdk a1 (bdk y2T (bdk b1 (bdk y2T (bdk c1 (bdk y2T (bdk s1 (bdk y2R0 (bdk (t5R8 TB112) (bdk y2R0 (bdk (t5I TB112) ?_)))))))))))
      rw [n3']
      refine bdk (t5A3 TB112 (by omega) (by omega)) ?_
      rw [toN]
      refine bdk (t4B TB112 hs (Or.inl rfl)) (bdk (t4P TB112 hs) (bdk (t4P TB112 hs) ?_))
      rw [hK]
      refine bdk y2R10 (bdk y2R0 (bdk (t5I TB112) ?_))
      rw [k3]
      refine bdk (s_sI h186 (by omega) (by omega)) ?_
      rw [toN]
      refine bdk y2R0 (bdk (t5I TB112) ?_)
      rw [k3', mw_n (by omega)]
      exact bdk (t5P TB112) rfl
    · unfold D_X9_dated
      refine bdk z9I ?_
      rw [m45, if_pos (by omega)]
      unfold D_X9_dated_18
      refine bdk z9I ?_
      rw [h2.2, if_pos (by decide)]
      refine bdk z9I ?_
      rw [m45]
      exact bdk z9T (bdk a2 (bdk z9T (bdk e1 (bdk z9T (bdk b2 (bdk z9T (bdk e3 (bdk z9T (bdk c2 (bdk z9T (bdk e5 e7)))))))))))
    · exact Fr.trans' cA.pd (fun x y z => f5 x y (fun w => z (by unfold PDc; omega)))
    · intro x y z
      unfold PDm at z
      rw [s4 _ _ (by omega), f7 _ _ (by omega), ← hJ6, u2_ne _ _ (by omega), c4 _ _ (by omega), u2_ne _ _ (by omega), b4 _ _ (by omega), u2_ne _ _ (by omega), a4 _ _ (by unfold PFr; omega)]
    · rcases hE with ⟨a', ha, hc, hm⟩ | hE
      · have z7 := hZ hm.2
        have z5 : J5 1170 42 = 0 := by rw [f7 _ _ (by omega), ← hJ6, u2_ne _ _ (by omega)] at z7; exact z7
        have z3 : J3 1170 42 = 0 := by have := c7 z5; rw [u2_ne _ _ (by omega)] at this; exact this
        have z1 : J1 1170 42 = 0 := by have := b7 z3; rw [u2_ne _ _ (by omega)] at this; exact this
        obtain ⟨rfl, q1, q2⟩ := b6 z3
        obtain ⟨rfl, q3, q4⟩ := c6 z5
        obtain ⟨hn, -⟩ := a6 z1
        have w0 : J8 1173 (123 + 15 * ns + 0) = 0 := by rw [s4 _ _ (by omega), f7 _ _ (by omega), ← hJ6, u2_ne _ _ (by omega), c4 _ _ (by omega), u2_ne _ _ (by omega), b4 _ _ (by omega)]; exact u2_eq ..
        have w1 : J8 1173 (123 + 15 * ns + 1) = v1 := by rw [s4 _ _ (by omega), f7 _ _ (by omega), ← hJ6, u2_ne _ _ (by omega), c4 _ _ (by omega)]; exact u2_eq ..
        have w2 : J8 1173 (123 + 15 * ns + 2) = v2 := by rw [s4 _ _ (by omega), f7 _ _ (by omega), ← hJ6]; exact u2_eq ..
        refine Or.inl ⟨a', ns + 1, np, nr, ha, hc.fr (fun x y w => f5 x y (by omega)), hm, hD.S (v := v) hs ?_ ?_ (u2_eq ..) ?_ ?_ ?_ ?_ ?_ ?_⟩
        · exact fun x y w => (f5 x y (by omega)).trans (cA x y (by omega))
        · intro x y z
          rw [s4 _ _ (by unfold PNm at z; omega), f7 _ _ (by omega), ← hJ6, u2_ne _ _ (by omega), c4 _ _ (by unfold PNm at z; omega), u2_ne _ _ (by omega), b4 _ _ (by unfold PNm at z; omega), u2_ne _ _ (by omega), a4 _ _ (by unfold PNm at z; unfold PFr; omega)]
        · rw [s4 _ _ (by omega)]; exact g7 z7
        · rw [u2_ne _ _ (by omega)]; exact u2_eq ..
        · exact hn.fr (fun i hi => by rw [s4 _ _ (by omega), f7 _ _ (by omega), ← hJ6, u2_ne _ _ (by omega), c4 _ _ (by omega), u2_ne _ _ (by omega), b4 _ _ (by omega), u2_ne _ _ (by omega)])
        · intro w hw
          have : w = 0 ∨ w = 1 ∨ w = 2 := by omega
          rw [u2_ne _ _ (by omega), u2_ne _ _ (by omega), ← hK]
          rcases this with rfl | rfl | rfl
          · rw [w0, u2_ne _ _ (by omega), u2_ne _ _ (by omega)]; exact u2_eq ..
          · rw [w1, u2_ne _ _ (by omega)]; exact u2_eq ..
          · rw [w2]; exact u2_eq ..
        · intro z
          exact absurd (w0.symm.trans z) (by decide)
        · have tN : ∀ w, w < 15 → tSa (TT J8) ns w = J8 1173 (123 + 15 * ns + w) := fun w q => TT_lo (by omega)
          unfold WFs
          rw [tN 0 (by decide), tN 1 (by decide), tN 2 (by decide), w0, w1, w2]
          exact Or.inl ⟨rfl, ⟨q1, q2⟩, q3, q4⟩
      · exact Or.inr (hE.fr (fun x y w => f5 x y (by omega)) (fun _ _ _ => rfl))
  · have e : ns = 12 := by omega
    subst e
    have hf1 := h1.fl (k := 3) (pl := I 111 6) (by decide)
    have hf2 := h2.wr (k := 3) (pl := J 1170 40) (by decide)
    refine ⟨cfl I 3 (I 111 6), wro J 3 (J 1170 40), wro J 3 (J 1170 40), ?_, ?_, o397 (m_mustF hf2), CC.fl.pd, MC.w.pd, Or.inr ⟨3, I 111 6, hf1, hp ▸ hf2⟩, St.o h2.2⟩
    · unfold D_X2_readSample
      refine bdk y2R0 (bdk (t5I TB112) ?_)
      rw [n3, if_neg (by omega)]
      exact bdk y2I (bdk y2T (bdk (c_fail h1.2.2.1) rfl))
    · unfold D_X9_dated
      refine bdk z9I ?_
      rw [m45, if_neg (by omega)]
      refine bdk z9I (bdk z9T (bdk (m_wrong h2.2) ?_))
      unfold D_X9_dated_18
      refine bdk z9I ?_
      rw [hf2.2.1.1, if_neg (by omega)]
end LI
