/-! THE PURE PART: the rules' lines, on both sides -/
def PDc (x y : Nat) : Prop := (x = 111 ∧ (y = 1 ∨ y = 2 ∨ 5 ≤ y ∧ y ≤ 9)) ∨ (112 ≤ x ∧ x ≤ 187)
def PDm (x y : Nat) : Prop := (x = 1170 ∧ (39 ≤ y ∧ y ≤ 43 ∨ 45 ≤ y ∧ y ≤ 49)) ∨ x = 1173 ∨ (1223 ≤ x ∧ x ≤ 1228)
/-- how a line ends -/
def En (B : Nat → Int) (L q : Nat) (I J : Nat → Nat → Int) : Prop := (∃ a ns np nr, q < a ∧ CX B L a I ∧ MX B L a J ∧ DR B ns np nr I J) ∨ Bad B L I J
def Out (B : Nat → Int) (L q : Nat) (I J I' J' : Nat → Nat → Int) : Prop := Fr PDc I I' ∧ Fr PDm J J' ∧ En B L q I' J' ∧ St J J'
/-- a rule's numbers, told well -/
def WR (ns np : Nat) (a b c d e : Int) : Prop :=
  (a = 0 ∧ (0 ≤ b ∧ b < ns) ∧ (0 ≤ c ∧ c < ns) ∧ b ≠ c ∧ 0 ≤ d ∧ d ≤ e ∧ e ≤ 999) ∨ (a = 1 ∧ (0 ≤ b ∧ b < ns) ∧ (0 ≤ c ∧ c < ns) ∧ b ≠ c ∧ d = 0 ∧ e = -1) ∨
  ((a = 2 ∨ a = 3) ∧ (0 ≤ b ∧ b < ns) ∧ c = -1 ∧ (0 ≤ d ∧ d ≤ 999) ∧ e = -1) ∨ (a = 4 ∧ (0 ≤ b ∧ b < np) ∧ (0 ≤ c ∧ c < np) ∧ b ≠ c ∧ (0 ≤ d ∧ d ≤ 999) ∧ e = -1) ∨ (a = 5 ∧ (0 ≤ b ∧ b < np) ∧ c = -1 ∧ (0 ≤ d ∧ d ≤ 999) ∧ e = -1)
section LN
variable {n : Nat} {c d : Nat × Nat × Nat × Nat} {I J I' J' I0 J0 : Nat → Nat → Int} {W V : Nat → Nat → BitVec 64} {p r : Nat → Nat} {B : Nat → Int} {L q m ns np nr a b : Nat} {k pl : Int} {vs : Nat → Int}
theorem CC.pd (h : CC I I') : Fr PDc I I' := fun x y z => h x y (fun w => z (Or.inl ⟨w.1, by omega⟩))
theorem MC.pd (h : MC J J') : Fr PDm J J' := fun x y z => h x y (fun w => z (Or.inl ⟨w.1, Or.inl w.2⟩))
theorem PN.pd (h : Fr PNm J J') : Fr PDm J J' := fun x y z => h x y (fun w => z (by unfold PNm at w; unfold PDm; omega))
theorem CC.dd (h : CC I I') : Fr (fun x y => x = 111 ∧ y ≠ 8 ∧ y ≠ 9) I I' := fun x y z => h x y (fun w => z ⟨w.1, by omega, by omega⟩)
theorem CX.fr (h : CX B L a I) (hI : ∀ x y, x = 109 ∨ (x = 111 ∧ y ≤ 5) → I' x y = I x y) : CX B L a I' := by
  unfold CX
  rw [hI 111 4 (by omega), hI 111 1 (by omega), hI 111 5 (by omega)]
  exact ⟨fun k hk => by rw [hI _ _ (by omega)]; exact h.1 k hk, h.2⟩
theorem CF.fr (h : CF B L k pl I) (hI : ∀ x y, x = 109 ∨ (x = 111 ∧ y ≤ 5) → I' x y = I x y) : CF B L k pl I' := by
  unfold CF
  rw [hI 111 4 (by omega), hI 111 1 (by omega), hI 111 2 (by omega), hI 111 5 (by omega)]
  exact ⟨fun k hk => by rw [hI _ _ (by omega)]; exact h.1 k hk, h.2⟩
theorem MT.fr (h : MT B L b J) (hJ : ∀ x y, x = 1222 ∨ (x = 1170 ∧ 38 ≤ y ∧ y ≤ 43) → J' x y = J x y) : MT B L b J' := by
  unfold MT
  rw [hJ 1170 38 (by omega), hJ 1170 39 (by omega)]
  exact ⟨fun k hk => by rw [hJ _ _ (by omega)]; exact h.1 k hk, h.2⟩
theorem MX.fr (h : MX B L b J) (hJ : ∀ x y, x = 1222 ∨ (x = 1170 ∧ 38 ≤ y ∧ y ≤ 43) → J' x y = J x y) : MX B L b J' := ⟨h.1.fr hJ, by rw [hJ _ _ (by omega)]; exact h.2⟩
theorem MF.fr (h : MF B L k pl J) (hJ : ∀ x y, x = 1222 ∨ (x = 1170 ∧ 38 ≤ y ∧ y ≤ 43) → J' x y = J x y) : MF B L k pl J' := by
  obtain ⟨⟨b, h1⟩, h2, h3⟩ := h
  exact ⟨⟨b, h1.fr hJ⟩, by rw [hJ 1170 42 (by omega)]; exact h2, by rw [hJ 1170 43 (by omega)]; exact h3⟩
theorem Bad.fr (h : Bad B L I J) (hI : ∀ x y, x = 109 ∨ (x = 111 ∧ y ≤ 5) → I' x y = I x y) (hJ : ∀ x y, x = 1222 ∨ (x = 1170 ∧ 38 ≤ y ∧ y ≤ 43) → J' x y = J x y) : Bad B L I' J' := by
  obtain ⟨k, pl, h1, h2⟩ := h
  exact ⟨k, pl, h1.fr hI, h2.fr hJ⟩
theorem S2.fr (h : S2 B L q I J) (hI : ∀ x y, x = 109 ∨ (x = 111 ∧ y ≤ 5) → I' x y = I x y) (hJ : ∀ x y, x = 1222 ∨ (x = 1170 ∧ 38 ≤ y ∧ y ≤ 43) → J' x y = J x y) : S2 B L q I' J' := by
  rcases h with ⟨a, b, h1, h2, h3, h4⟩ | h
  · exact Or.inl ⟨a, b, h1, h2, h3.fr hI, h4.fr hJ⟩
  · exact Or.inr (h.fr hI hJ)
theorem l3 {i : Nat} (h : i < 303) : lI (st true n c I W p) 1173 (i : Int) = some (I 1173 i) := z9L3 (by omega) (by omega)
theorem s3 {i : Nat} {x : Int} (h : i < 303) : sI (st true n c I W p) 1173 (i : Int) x = some (st true n c (u2 I 1173 i x) W p) := z9S3 (by omega) (by omega)
theorem c_add {x1 x2 x3 x4 x5 : Int} (h5 : I 112 5 = (nr : Nat)) (hs : nr < 24) : ∃ I', D_X5_addRule 112 x1 x2 x3 x4 x5 (st true n c I W p) = some (st true n c I' W p) ∧ (I' (162 + nr) 0 = x1 ∧ I' (162 + nr) 1 = x2 ∧ I' (162 + nr) 2 = x3 ∧ I' (162 + nr) 3 = x4 ∧ I' (162 + nr) 4 = x5) ∧ I' 112 5 = ((nr + 1 : Nat) : Int) ∧ Fr (fun x y => (x = 112 ∧ y = 5) ∨ x = 162 + nr) I I' := by
  generalize hK : u2 (u2 (u2 (u2 (u2 I (112 + 50 + nr) 0 x1) (112 + 50 + nr) 1 x2) (112 + 50 + nr) 2 x3) (112 + 50 + nr) 3 x4) (112 + 50 + nr) 4 x5 = K
  have k5 : K 112 5 = (nr : Nat) := by rw [← hK, u2_ne _ _ (by omega), u2_ne _ _ (by omega), u2_ne _ _ (by omega), u2_ne _ _ (by omega), u2_ne _ _ (by omega)]; exact h5
  refine ⟨u2 K 112 5 ((nr + 1 : Nat) : Int), ?_, ⟨?_, ?_, ?_, ?_, ?_⟩, u2_eq .., fun x y z => ?_⟩
  · unfold D_X5_addRule
    refine bdk (t5I TB112) ?_
    rw [h5, if_pos (by omega)]
    refine bdk (t5R10 TB112) (bdk (t5I TB112) ?_)
    rw [h5]
    refine bdk (t5A5 TB112 (by omega) (by omega)) ?_
    rw [toN]
    refine bdk (t3P TB112 hs) (bdk (t3P TB112 hs) (bdk (t3P TB112 hs) (bdk (t3P TB112 hs) (bdk (t3P TB112 hs) ?_))))
    rw [hK]
    refine bdk (t5I TB112) ?_
    rw [k5, mw_n (by omega)]
    exact bdk (t5P TB112) rfl
  · rw [u2_ne _ _ (by omega), ← hK, u2_ne _ _ (by omega), u2_ne _ _ (by omega), u2_ne _ _ (by omega), u2_ne _ _ (by omega)]
    exact u2_eq ..
  · rw [u2_ne _ _ (by omega), ← hK, u2_ne _ _ (by omega), u2_ne _ _ (by omega), u2_ne _ _ (by omega)]
    exact u2_eq ..
  · rw [u2_ne _ _ (by omega), ← hK, u2_ne _ _ (by omega), u2_ne _ _ (by omega)]
    exact u2_eq ..
  · rw [u2_ne _ _ (by omega), ← hK, u2_ne _ _ (by omega)]
    exact u2_eq ..
  · rw [u2_ne _ _ (by omega), ← hK]
    exact u2_eq ..
  · rw [u2_ne _ _ (by omega), ← hK, u2_ne _ _ (by omega), u2_ne _ _ (by omega), u2_ne _ _ (by omega), u2_ne _ _ (by omega), u2_ne _ _ (by omega)]
theorem m_lays {x1 x2 x3 x4 x5 : Int} (h42 : J 1170 42 = 0) (h2 : J 1173 2 = (nr : Nat)) (hs : nr < 24) : ∃ J', D_X9_lays_ 1170 x1 x2 x3 x4 x5 (st true n d J V r) = some (st true n d J' V r) ∧ (J' 1173 (3 + 5 * nr) = x1 ∧ J' 1173 (3 + 5 * nr + 1) = x2 ∧ J' 1173 (3 + 5 * nr + 2) = x3 ∧ J' 1173 (3 + 5 * nr + 3) = x4 ∧ J' 1173 (3 + 5 * nr + 4) = x5) ∧ J' 1173 2 = ((nr + 1 : Nat) : Int) ∧ Fr (fun x y => (x = 1173 ∧ y = 2) ∨ (x = 1173 ∧ 3 + 5 * nr ≤ y ∧ y < 8 + 5 * nr)) J J' := by
  generalize hK : u2 (u2 (u2 (u2 (u2 J 1173 (3 + 5 * nr) x1) 1173 (3 + 5 * nr + 1) x2) 1173 (3 + 5 * nr + 2) x3) 1173 (3 + 5 * nr + 3) x4) 1173 (3 + 5 * nr + 4) x5 = K
  have k2 : K 1173 2 = (nr : Nat) := by rw [← hK, u2_ne _ _ (by omega), u2_ne _ _ (by omega), u2_ne _ _ (by omega), u2_ne _ _ (by omega), u2_ne _ _ (by omega)]; exact h2
  refine ⟨u2 K 1173 2 ((nr + 1 : Nat) : Int), ?_, ⟨?_, ?_, ?_, ?_, ?_⟩, u2_eq .., fun x y z => ?_⟩
  · unfold D_X9_lays_
    refine bdk z9I ?_
    rw [h42, if_pos (by decide)]
    have e3 : mw (3 + mw (5 * (nr : Int))) = ((3 + 5 * nr : Nat) : Int) := by rw [mw_of (x := 5 * (nr : Int)) (by omega) (by omega), mw_of (by omega) (by omega)]; omega
    have ew : ∀ w : Nat, w < 5 → mw (((3 + 5 * nr : Nat) : Int) + (w : Int)) = ((3 + 5 * nr + w : Nat) : Int) := fun w hw => by rw [mw_of (by omega) (by omega)]; omega
    refine bdk z9R3 (bdk (l3 (i := 2) (by decide)) (bdk z9R3 ?_))
    rw [h2, e3]
    refine bdk (s3 (by omega)) (bdk z9R3 ?_)
    rw [show mw (((3 + 5 * nr : Nat) : Int) + 1) = ((3 + 5 * nr + 1 : Nat) : Int) from ew 1 (by decide)]
    refine bdk (s3 (by omega)) (bdk z9R3 ?_)
    rw [show mw (((3 + 5 * nr : Nat) : Int) + 2) = ((3 + 5 * nr + 2 : Nat) : Int) from ew 2 (by decide)]
    refine bdk (s3 (by omega)) (bdk z9R3 ?_)
    rw [show mw (((3 + 5 * nr : Nat) : Int) + 3) = ((3 + 5 * nr + 3 : Nat) : Int) from ew 3 (by decide)]
    refine bdk (s3 (by omega)) (bdk z9R3 ?_)
    rw [show mw (((3 + 5 * nr : Nat) : Int) + 4) = ((3 + 5 * nr + 4 : Nat) : Int) from ew 4 (by decide)]
    refine bdk (s3 (by omega)) ?_
    rw [hK]
    refine bdk z9R3 (bdk (l3 (i := 2) (by decide)) ?_)
    rw [k2, mw_n (by omega)]
    exact bdk (s3 (i := 2) (by decide)) rfl
  · rw [u2_ne _ _ (by omega), ← hK, u2_ne _ _ (by omega), u2_ne _ _ (by omega), u2_ne _ _ (by omega), u2_ne _ _ (by omega)]
    exact u2_eq ..
  · rw [u2_ne _ _ (by omega), ← hK, u2_ne _ _ (by omega), u2_ne _ _ (by omega), u2_ne _ _ (by omega)]
    exact u2_eq ..
  · rw [u2_ne _ _ (by omega), ← hK, u2_ne _ _ (by omega), u2_ne _ _ (by omega)]
    exact u2_eq ..
  · rw [u2_ne _ _ (by omega), ← hK, u2_ne _ _ (by omega)]
    exact u2_eq ..
  · rw [u2_ne _ _ (by omega), ← hK]
    exact u2_eq ..
  · rw [u2_ne _ _ (by omega), ← hK, u2_ne _ _ (by omega), u2_ne _ _ (by omega), u2_ne _ _ (by omega), u2_ne _ _ (by omega), u2_ne _ _ (by omega)]
/-- a rule's end -/
theorem t_rule {cd x3 x4 x5 x6 y3 y4 y5 y6 : Int} (hB : ∀ k, 0 ≤ B k ∧ B k < 256) (hL : L ≤ 500) (hD : DR B ns np nr I J) (h : S2 B L q I J) (hx : J 1170 42 = 0 → nr < 24 ∧ x3 = y3 ∧ x4 = y4 ∧ x5 = y5 ∧ x6 = y6 ∧ WR ns np cd x3 x4 x5 x6) :
    ∃ I' J1 J', D_X2_readRule_169 111 cd x3 x4 x5 x6 (st true n c I W p) = some (st true n c I' W p) ∧ D_X9_lays_ 1170 cd y3 y4 y5 y6 (st true n d J V r) = some (st true n d J1 V r) ∧ D_X9_oneLine_397 1170 (st true n d J1 V r) = some (st true n d J' V r) ∧ Out B L q I J I' J' := by
  have n5 := hD.1.1.2.2.1
  have n24 := hD.1.1.2.2.2.2.2
  by_cases z : J 1170 42 = 0
  · obtain ⟨hs, rfl, rfl, rfl, rfl, hW⟩ := hx z
    obtain ⟨J1, e1, ⟨g0, g1, g2, g3, g4⟩, g5, f1⟩ := m_lays (n := n) (d := d) (V := V) (r := r) (x1 := cd) (x2 := x3) (x3 := x4) (x4 := x5) (x5 := x6) z hD.2.1 hs
    have hS := h.fr (I' := I) (J' := J1) (fun _ _ _ => rfl) (fun x y w => f1 x y (by omega))
    obtain ⟨I2, J2, e2, e3, c2, c3, hE, -, -⟩ := t_sign (n := n) (c := c) (d := d) (W := W) (V := V) (p := p) (r := r) (x := 59) hB hL (by decide) hS
    obtain ⟨I3, e4, ⟨k0, k1, k2, k3, k4⟩, k5, f4⟩ := c_add (n := n) (c := c) (W := W) (p := p) (x1 := cd) (x2 := x3) (x3 := x4) (x4 := x5) (x5 := x6) (I := I2) (nr := nr) (by rw [c2.ne (by decide)]; exact n5) hs
    have jj : ∀ y, J2 1173 y = J1 1173 y := fun y => c3 _ _ (by omega)
    have fI : ∀ x y, x = 109 ∨ (x = 111 ∧ y ≤ 5) → I3 x y = I2 x y := fun x y w => f4 x y (by omega)
    refine ⟨I3, J1, J2, ?_, e1, bdk z9T (bdk e3 rfl), ?_, ?_, ?_, St.o z⟩
    · unfold D_X2_readRule_169
      exact bdk y2T (bdk e2 (bdk y2R0 (bdk (t5T TB112) (bdk e4 rfl))))
    · exact Fr.trans' c2.pd (fun x y w => f4 x y (fun u => w (by unfold PDc; omega)))
    · exact Fr.trans' (fun x y w => f1 x y (fun u => w (by unfold PDm; omega))) c3.pd
    · rcases hE with ⟨a', ha, hc, hm⟩ | hE
      · refine Or.inl ⟨a', ns, np, nr + 1, ha, hc.fr fI, hm, hD.R hs ?_ ?_ k5 ((jj 2).trans g5) ?_ ?_⟩
        · exact fun x y w => (f4 x y (by omega)).trans (c2 x y (by omega))
        · exact fun x y w => (c3 x y (by unfold PNm at w; omega)).trans (f1 x y (by omega))
        · intro w hw
          rw [jj]
          have : w = 0 ∨ w = 1 ∨ w = 2 ∨ w = 3 ∨ w = 4 := by omega
          rcases this with rfl | rfl | rfl | rfl | rfl
          · exact k0.trans g0.symm
          · exact k1.trans g1.symm
          · exact k2.trans g2.symm
          · exact k3.trans g3.symm
          · exact k4.trans g4.symm
        · have t4 : TT J2 304 = (ns : Nat) := by rw [TT_304, c3 _ _ (by omega), f1 _ _ (by omega)]; exact hD.1.2.1
          have t5 : TT J2 305 = (np : Nat) := by rw [TT_305, c3 _ _ (by omega), f1 _ _ (by omega)]; exact hD.1.2.2.1
          have tN : ∀ w, w < 5 → tRu (TT J2) nr w = J1 1173 (3 + 5 * nr + w) := fun w q => (TT_lo (by omega)).trans (jj _)
          unfold WFr
          rw [tN 0 (by decide), tN 1 (by decide), tN 2 (by decide), tN 3 (by decide), tN 4 (by decide), t4, t5, g1, g2, g3, g4, show J1 1173 (3 + 5 * nr + 0) = cd from g0]
          exact hW
      · exact Or.inr (hE.fr fI (fun _ _ _ => rfl))
  · have hb := h.bad z
    have e1 : D_X9_lays_ 1170 cd y3 y4 y5 y6 (st true n d J V r) = some (st true n d J V r) := by
      obtain ⟨k, pl, -, -, ⟨z1, z2⟩, -⟩ := hb
      unfold D_X9_lays_
      refine bdk z9I ?_
      rw [z1, if_neg (by omega)]
    obtain ⟨I2, J2, e2, e3, c2, c3, hE, hZ, hSt⟩ := t_sign (n := n) (c := c) (d := d) (W := W) (V := V) (p := p) (r := r) (x := 59) hB hL (by decide) h
    have hE' : Bad B L I2 J2 := hE.elim (fun ⟨_, _, _, w⟩ => absurd (hZ w.2) z) id
    by_cases hs : nr < 24
    · obtain ⟨I3, e4, -, -, f4⟩ := c_add (n := n) (c := c) (W := W) (p := p) (x1 := cd) (x2 := x3) (x3 := x4) (x4 := x5) (x5 := x6) (I := I2) (nr := nr) (by rw [c2.ne (by decide)]; exact n5) hs
      refine ⟨I3, J, J2, ?_, e1, bdk z9T (bdk e3 rfl), ?_, c3.pd, Or.inr (hE'.fr (fun x y w => f4 x y (by omega)) (fun _ _ _ => rfl)), hSt⟩
      · unfold D_X2_readRule_169
        exact bdk y2T (bdk e2 (bdk y2R0 (bdk (t5T TB112) (bdk e4 rfl))))
      · exact Fr.trans' c2.pd (fun x y w => f4 x y (fun u => w (by unfold PDc; omega)))
    · refine ⟨I2, J, J2, ?_, e1, bdk z9T (bdk e3 rfl), c2.pd, c3.pd, Or.inr hE', hSt⟩
      unfold D_X2_readRule_169
      refine bdk y2T (bdk e2 (bdk y2R0 (bdk (t5T TB112) (bdk ?_ rfl))))
      unfold D_X5_addRule
      refine bdk (t5I TB112) ?_
      rw [c2.ne (by decide), n5, if_neg (by omega)]
theorem Out.pre (h1 : CC I0 I) (h2 : Fr PNm J0 J) (h3 : St J0 J) (h : Out B L q I J I' J') : Out B L q I0 J0 I' J' := ⟨Fr.trans' h1.pd h.1, Fr.trans' (PN.pd h2) h.2.1, h.2.2.1, h3.t h.2.2.2⟩
theorem DR.cc (h : DR B ns np nr I J) (h1 : CC I I') (h2 : Fr PNm J J') : DR B ns np nr I' J' := h.fr h1.dd h2
/-- before -/
theorem r_before (hB : ∀ k, 0 ≤ B k ∧ B k < 256) (hL : L ≤ 500) (hD : DR B ns np nr I J) (h : N2 B L q 0 vs I J) (hs : J 1170 42 = 0 → nr < 24) :
    ∃ I' J1 J', D_X2_readRule_37 111 0 0 (st true n c I W p) = some (st true n c I' W p) ∧ D_X9_beforeLine 1170 (st true n d J V r) = some (st true n d J1 V r) ∧ D_X9_oneLine_397 1170 (st true n d J1 V r) = some (st true n d J' V r) ∧ Out B L q I J I' J' := by
  obtain ⟨v1, w1, I1, J1, vs1, a1, a2, a3, a4, a5, a6, a7, a8⟩ := t_sName (n := n) (c := c) (d := d) (W := W) (V := V) (p := p) (r := r) (tw := -1) hB hL h hD.1 (by decide) (fun _ => tw_0)
  have hD1 := hD.cc a3 a4
  have e1 : (fun k => I1 186 k) = fun k => I 186 k := funext fun _ => a3.ne (by decide)
  obtain ⟨v2, w2, I2, J2, vs2, b1, b2, b3, b4, b5, b6, b7, b8⟩ := t_sName (n := n) (c := c) (d := d) (W := W) (V := V) (p := p) (r := r) (tw := v1) hB hL a5 hD1.1 (by decide) (fun z => by rw [e1]; exact tw_1 (a6 z).2.2.2.2.1 (a6 z).2.1)
  have hD2 := hD1.cc b3 b4
  obtain ⟨v3, w3, I3, J3, c1, c2, c3, c4, c5, c6, c7, c8⟩ := t_opt (n := n) (c := c) (d := d) (W := W) (V := V) (p := p) (r := r) (l1 := 0) (l2 := 0) (hi := 999) (dv := 0) hB hL (by decide) b5.s (fun _ => rfl)
  have hD3 := hD2.cc c3 c4.pn
  obtain ⟨v4, w4, I4, J4, d1, d2, d3, d4, d5, d6, d7, d8⟩ := t_opt (n := n) (c := c) (d := d) (W := W) (V := V) (p := p) (r := r) (l1 := v3) (l2 := w3) (hi := 999) (dv := 999) hB hL (by decide) c5 (fun z => (c6 z).1)
  have hD4 := hD3.cc d3 d4.pn
  obtain ⟨I5, J5, J6, f1, f2, f3, f4⟩ := t_rule (n := n) (c := c) (d := d) (W := W) (V := V) (p := p) (r := r) (cd := 0) (x3 := v1) (x4 := v2) (x5 := v3) (x6 := v4) (y3 := w1) (y4 := w2) (y5 := w3) (y6 := w4) hB hL hD4 d5 (fun z => by
    have z3 := d7 z
    have z2 := c7 z3
    have z1 := b7 z2
    have z0 := a7 z1
    have q1 := a6 z1
    have q2 := b6 z2
    have q3 := c6 z3
    have q4 := d6 z
    refine ⟨hs z0, q1.1, q2.1, q3.1, q4.1, Or.inl ⟨rfl, ⟨q1.2.1, q1.2.2.1⟩, ⟨q2.2.1, q2.2.2.1⟩, fun e => q2.2.2.2.1 e.symm, ?_⟩⟩
    omega)
  refine ⟨I5, J5, J6, ?_, ?_, f3, (((f4.pre d3 d4.pn d8).pre c3 c4.pn c8).pre b3 b4 b8).pre a3 a4 a8⟩
  · unfold D_X2_readRule_37
    rw [if_pos rfl]
    refine bdk y2T (bdk a1 ?_)
    unfold D_X2_readRule_55 D_X2_readRule_74
    rw [if_pos rfl]
    refine bdk y2T (bdk b1 ?_)
    unfold D_X2_readRule_109 D_X2_readRule_118
    rw [if_pos rfl]
    refine bdk y2T ?_
    refine (c1 (fun v σ => D_X2_readRule_138 111 0 v1 v2 v (-1) σ)).trans ?_
    unfold D_X2_readRule_138
    show (if (0 : Int) ≠ 0 then _ else _) = _
    rw [if_neg (by decide)]
    refine bdk y2T ?_
    exact (d1 (fun v σ => D_X2_readRule_167 111 0 v1 v2 v3 v σ)).trans f1
  · unfold D_X9_beforeLine
    refine bdk z9T (bdk a2 (bdk z9T (bdk b2 (bdk z9T ?_))))
    refine (c2 (fun w σ => D_X9_beforeLine_31 1170 w1 w2 w σ)).trans ?_
    unfold D_X9_beforeLine_31
    refine bdk z9T ?_
    refine (d2 (fun w σ => D_X9_beforeLine_53 1170 w1 w2 w3 w σ)).trans ?_
    exact bdk z9T (bdk f2 rfl)
/-- same -/
theorem r_same (hB : ∀ k, 0 ≤ B k ∧ B k < 256) (hL : L ≤ 500) (hD : DR B ns np nr I J) (h : N2 B L q 0 vs I J) (hs : J 1170 42 = 0 → nr < 24) :
    ∃ I' J', D_X2_readRule_37 111 1 0 (st true n c I W p) = some (st true n c I' W p) ∧ ((D_X9_known 1170 0 (st true n d J V r)).bind fun r36 => (tgO r36.2 1170 8).bind fun _ => (D_X9_known 1170 0 r36.2).bind fun r37 => (tgO r37.2 1170 8).bind fun _ => (D_X9_lays_ 1170 1 r36.1 r37.1 0 ((-1)) r37.2).bind fun r38 => D_X9_oneLine_397 1170 r38) = some (st true n d J' V r) ∧ Out B L q I J I' J' := by
  obtain ⟨v1, w1, I1, J1, vs1, a1, a2, a3, a4, a5, a6, a7, a8⟩ := t_sName (n := n) (c := c) (d := d) (W := W) (V := V) (p := p) (r := r) (tw := -1) hB hL h hD.1 (by decide) (fun _ => tw_0)
  have hD1 := hD.cc a3 a4
  have e1 : (fun k => I1 186 k) = fun k => I 186 k := funext fun _ => a3.ne (by decide)
  obtain ⟨v2, w2, I2, J2, vs2, b1, b2, b3, b4, b5, b6, b7, b8⟩ := t_sName (n := n) (c := c) (d := d) (W := W) (V := V) (p := p) (r := r) (tw := v1) hB hL a5 hD1.1 (by decide) (fun z => by rw [e1]; exact tw_1 (a6 z).2.2.2.2.1 (a6 z).2.1)
  have hD2 := hD1.cc b3 b4
  obtain ⟨I5, J5, J6, f1, f2, f3, f4⟩ := t_rule (n := n) (c := c) (d := d) (W := W) (V := V) (p := p) (r := r) (cd := 1) (x3 := v1) (x4 := v2) (x5 := 0) (x6 := -1) (y3 := w1) (y4 := w2) (y5 := 0) (y6 := -1) hB hL hD2 b5.s (fun z2 => by
    have z1 := b7 z2
    have z0 := a7 z1
    have q1 := a6 z1
    have q2 := b6 z2
    exact ⟨hs z0, q1.1, q2.1, rfl, rfl, Or.inr (Or.inl ⟨rfl, ⟨q1.2.1, q1.2.2.1⟩, ⟨q2.2.1, q2.2.2.1⟩, fun e => q2.2.2.2.1 e.symm, rfl, rfl⟩)⟩)
  refine ⟨I5, J6, ?_, bdk a2 (bdk z9T (bdk b2 (bdk z9T (bdk f2 f3)))), (f4.pre b3 b4 b8).pre a3 a4 a8⟩
  unfold D_X2_readRule_37
  rw [if_pos rfl]
  refine bdk y2T (bdk a1 ?_)
  unfold D_X2_readRule_55 D_X2_readRule_74
  rw [if_neg (by decide), if_neg (by decide)]
  refine bdk y2T (bdk b1 ?_)
  unfold D_X2_readRule_109 D_X2_readRule_138
  rw [if_neg (by decide), if_pos (by decide), if_pos (by decide)]
  exact f1
/-- after, until -/
theorem r_after {cd : Int} (hcd : cd = 2 ∨ cd = 3) (hB : ∀ k, 0 ≤ B k ∧ B k < 256) (hL : L ≤ 500) (hD : DR B ns np nr I J) (h : N2 B L q 0 vs I J) (hs : J 1170 42 = 0 → nr < 24) :
    ∃ I' J', D_X2_readRule_37 111 cd 0 (st true n c I W p) = some (st true n c I' W p) ∧ ((D_X9_known 1170 0 (st true n d J V r)).bind fun r33 => (tgO r33.2 1170 8).bind fun _ => (D_X9_number 1170 0 999 r33.2).bind fun r34 => (tgO r34.2 1170 8).bind fun _ => (D_X9_lays_ 1170 cd r33.1 ((-1)) r34.1 ((-1)) r34.2).bind fun r35 => D_X9_oneLine_397 1170 r35) = some (st true n d J' V r) ∧ Out B L q I J I' J' := by
  obtain ⟨v1, w1, I1, J1, vs1, a1, a2, a3, a4, a5, a6, a7, a8⟩ := t_sName (n := n) (c := c) (d := d) (W := W) (V := V) (p := p) (r := r) (tw := -1) hB hL h hD.1 (by decide) (fun _ => tw_0)
  have hD1 := hD.cc a3 a4
  obtain ⟨v3, w3, I3, J3, c1, c2, c3, c4, c5, c6, c7, c8⟩ := t_num (n := n) (c := c) (d := d) (W := W) (V := V) (p := p) (r := r) (l1 := 0) (l2 := 0) (hi := 999) hB hL (by decide) a5.s (fun _ => rfl)
  have hD3 := hD1.cc c3 c4.pn
  obtain ⟨I5, J5, J6, f1, f2, f3, f4⟩ := t_rule (n := n) (c := c) (d := d) (W := W) (V := V) (p := p) (r := r) (cd := cd) (x3 := v1) (x4 := -1) (x5 := v3) (x6 := -1) (y3 := w1) (y4 := -1) (y5 := w3) (y6 := -1) hB hL hD3 c5 (fun z3 => by
    have z1 := c7 z3
    have z0 := a7 z1
    have q1 := a6 z1
    have q3 := c6 z3
    exact ⟨hs z0, q1.1, rfl, q3.1, rfl, Or.inr (Or.inr (Or.inl ⟨hcd, ⟨q1.2.1, q1.2.2.1⟩, rfl, q3.2, rfl⟩))⟩)
  refine ⟨I5, J6, ?_, bdk a2 (bdk z9T (bdk c2 (bdk z9T (bdk f2 f3)))), (f4.pre c3 c4.pn c8).pre a3 a4 a8⟩
  unfold D_X2_readRule_37
  rw [if_pos rfl]
  refine bdk y2T (bdk a1 ?_)
  unfold D_X2_readRule_55
  rw [if_neg (by omega), if_pos (by omega), if_pos (by omega)]
  refine bdk y2T (bdk c1 ?_)
  unfold D_X2_readRule_109 D_X2_readRule_138
  rw [if_neg (by omega), if_pos (by omega), if_pos (by omega)]
  exact f1
/-- order -/
theorem r_order (hB : ∀ k, 0 ≤ B k ∧ B k < 256) (hL : L ≤ 500) (hD : DR B ns np nr I J) (h : N2 B L q 0 vs I J) (hs : J 1170 42 = 0 → nr < 24) :
    ∃ I' J', D_X2_readRule_37 111 4 1 (st true n c I W p) = some (st true n c I' W p) ∧ ((D_X9_known 1170 1 (st true n d J V r)).bind fun r25 => (tgO r25.2 1170 8).bind fun _ => (D_X9_known 1170 1 r25.2).bind fun r26 => (tgO r26.2 1170 8).bind fun _ => (D_X9_isDigit 1170 r26.2).bind fun r27 => if r27.1 = 0 then D_X9_oneLine_296 1170 0 r26.1 r25.1 4 1170 r27.2 else (tgO r27.2 1170 8).bind fun _ => (D_X9_number 1170 0 999 r27.2).bind fun r28 => D_X9_oneLine_296 1170 r28.1 r26.1 r25.1 4 1170 r28.2) = some (st true n d J' V r) ∧ Out B L q I J I' J' := by
  obtain ⟨v1, w1, I1, J1, vs1, a1, a2, a3, a4, a5, a6, a7, a8⟩ := t_pName (n := n) (c := c) (d := d) (W := W) (V := V) (p := p) (r := r) (tw := -1) hB hL h hD.1 (by decide) (fun _ => tw_0)
  have hD1 := hD.cc a3 a4
  have e1 : (fun k => I1 187 k) = fun k => I 187 k := funext fun _ => a3.ne (by decide)
  obtain ⟨v2, w2, I2, J2, vs2, b1, b2, b3, b4, b5, b6, b7, b8⟩ := t_pName (n := n) (c := c) (d := d) (W := W) (V := V) (p := p) (r := r) (tw := v1) hB hL a5 hD1.1 (by decide) (fun z => by rw [e1]; exact tw_1 (a6 z).2.2.2.2.1 (a6 z).2.1)
  have hD2 := hD1.cc b3 b4
  obtain ⟨v3, w3, I3, J3, c1, c2, c3, c4, c5, c6, c7, c8⟩ := t_opt (n := n) (c := c) (d := d) (W := W) (V := V) (p := p) (r := r) (l1 := 0) (l2 := 0) (hi := 999) (dv := 0) hB hL (by decide) b5.s (fun _ => rfl)
  have hD3 := hD2.cc c3 c4.pn
  obtain ⟨I5, J5, J6, f1, f2, f3, f4⟩ := t_rule (n := n) (c := c) (d := d) (W := W) (V := V) (p := p) (r := r) (cd := 4) (x3 := v1) (x4 := v2) (x5 := v3) (x6 := -1) (y3 := w1) (y4 := w2) (y5 := w3) (y6 := -1) hB hL hD3 c5 (fun z3 => by
    have z2 := c7 z3
    have z1 := b7 z2
    have z0 := a7 z1
    have q1 := a6 z1
    have q2 := b6 z2
    have q3 := c6 z3
    refine ⟨hs z0, q1.1, q2.1, q3.1, rfl, Or.inr (Or.inr (Or.inr (Or.inl ⟨rfl, ⟨q1.2.1, q1.2.2.1⟩, ⟨q2.2.1, q2.2.2.1⟩, fun e => q2.2.2.2.1 e.symm, ?_, rfl⟩)))⟩
    omega)
  refine ⟨I5, J6, ?_, bdk a2 (bdk z9T (bdk b2 (bdk z9T ((c2 (fun w σ => D_X9_oneLine_296 1170 w w2 w1 4 1170 σ)).trans (bdk z9T (bdk f2 f3)))))), ((f4.pre c3 c4.pn c8).pre b3 b4 b8).pre a3 a4 a8⟩
  unfold D_X2_readRule_37
  rw [if_neg (by decide)]
  refine bdk y2T (bdk a1 ?_)
  unfold D_X2_readRule_55
  rw [if_neg (by decide), if_pos (by decide), if_neg (by decide)]
  refine bdk y2T (bdk b1 ?_)
  unfold D_X2_readRule_109 D_X2_readRule_118
  rw [if_neg (by decide), if_neg (by decide)]
  refine bdk y2T ?_
  refine (c1 (fun v σ => D_X2_readRule_138 111 4 v1 v2 v (-1) σ)).trans ?_
  unfold D_X2_readRule_138
  show (if (4 : Int) ≠ 0 then _ else _) = _
  rw [if_pos (by decide)]
  exact f1
/-- lasts -/
theorem r_lasts (hB : ∀ k, 0 ≤ B k ∧ B k < 256) (hL : L ≤ 500) (hD : DR B ns np nr I J) (h : N2 B L q 0 vs I J) (hs : J 1170 42 = 0 → nr < 24) :
    ∃ I' J', D_X2_readRule_37 111 5 1 (st true n c I W p) = some (st true n c I' W p) ∧ ((D_X9_known 1170 1 (st true n d J V r)).bind fun r22 => (tgO r22.2 1170 8).bind fun _ => (D_X9_number 1170 0 999 r22.2).bind fun r23 => (tgO r23.2 1170 8).bind fun _ => (D_X9_lays_ 1170 5 r22.1 ((-1)) r23.1 ((-1)) r23.2).bind fun r24 => D_X9_oneLine_397 1170 r24) = some (st true n d J' V r) ∧ Out B L q I J I' J' := by
  obtain ⟨v1, w1, I1, J1, vs1, a1, a2, a3, a4, a5, a6, a7, a8⟩ := t_pName (n := n) (c := c) (d := d) (W := W) (V := V) (p := p) (r := r) (tw := -1) hB hL h hD.1 (by decide) (fun _ => tw_0)
  have hD1 := hD.cc a3 a4
  obtain ⟨v3, w3, I3, J3, c1, c2, c3, c4, c5, c6, c7, c8⟩ := t_num (n := n) (c := c) (d := d) (W := W) (V := V) (p := p) (r := r) (l1 := 0) (l2 := 0) (hi := 999) hB hL (by decide) a5.s (fun _ => rfl)
  have hD3 := hD1.cc c3 c4.pn
  obtain ⟨I5, J5, J6, f1, f2, f3, f4⟩ := t_rule (n := n) (c := c) (d := d) (W := W) (V := V) (p := p) (r := r) (cd := 5) (x3 := v1) (x4 := -1) (x5 := v3) (x6 := -1) (y3 := w1) (y4 := -1) (y5 := w3) (y6 := -1) hB hL hD3 c5 (fun z3 => by
    have z1 := c7 z3
    have z0 := a7 z1
    have q1 := a6 z1
    have q3 := c6 z3
    exact ⟨hs z0, q1.1, rfl, q3.1, rfl, Or.inr (Or.inr (Or.inr (Or.inr ⟨rfl, ⟨q1.2.1, q1.2.2.1⟩, rfl, q3.2, rfl⟩)))⟩)
  refine ⟨I5, J6, ?_, bdk a2 (bdk z9T (bdk c2 (bdk z9T (bdk f2 f3)))), (f4.pre c3 c4.pn c8).pre a3 a4 a8⟩
  unfold D_X2_readRule_37
  rw [if_neg (by decide)]
  refine bdk y2T (bdk a1 ?_)
  unfold D_X2_readRule_55
  rw [if_neg (by decide), if_pos (by decide), if_pos (by decide)]
  refine bdk y2T (bdk c1 ?_)
  unfold D_X2_readRule_109 D_X2_readRule_138
  rw [if_neg (by decide), if_pos (by decide), if_pos (by decide)]
  exact f1
end LN
