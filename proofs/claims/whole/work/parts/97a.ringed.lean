/-! THE PURE PART: a line of rings, on both sides -/
section RD
variable {n : Nat} {c d : Nat × Nat × Nat × Nat} {I J I' J' : Nat → Nat → Int} {W V : Nat → Nat → BitVec 64} {p r : Nat → Nat} {B : Nat → Int} {L q m ns np nr a b : Nat} {k pl : Int} {vs : Nat → Int}
def PRm2 (ns : Nat) (x y : Nat) : Prop := PRm ns x y ∨ (x = 1173 ∧ y = 123 + 15 * ns + 2) ∨ (x = 1170 ∧ y = 45)
theorem mFU_s : ∃ g, mFU = g + 1 ∧ 20 < g := ⟨mFU - 1, by unfold mFU; omega, by unfold mFU; omega⟩
theorem rg_all (hB : ∀ k, 0 ≤ B k ∧ B k < 256) (hL : L ≤ 500) (hs : ns < 12) (hS : S2 B L q I J) (h45 : J 1170 45 = (ns : Nat)) :
    ∃ rc I' J', D_X2_readRings_65 mFU 111 (112 + 6 + 3 * ns) (-1) 0 (st true n c I W p) = some rc ∧ (rc = Sum.inl (st true n c I' W p) ∨ rc = Sum.inr (Sum.inr (st true n c I' W p)) ∨ ∃ (I5 : Nat → Nat → Int) (a : Nat), rc = Sum.inr (Sum.inl (st true n c I5 W p)) ∧ I5 111 5 = (a : Nat) ∧ I5 111 1 = 0 ∧ I' = cfl I5 3 (a : Nat)) ∧
      D_X9_ringed_69 1170 0 (-1) (if J 1170 42 = 0 then 1 else 0) (st true n d J V r) = some (st true n d J' V r) ∧ Fr (PRc ns) I I' ∧ Fr (PRm2 ns) J J' ∧ S2 B L q I' J' ∧
      (J' 1170 42 = 0 → J 1170 42 = 0 ∧ J' 1170 45 = ((ns + 1 : Nat) : Int) ∧ ∃ k' : Nat, (1 ≤ k' ∧ k' ≤ 6) ∧ I' (112 + 6 + 3 * ns) 2 = (k' : Nat) ∧ J' 1173 (123 + 15 * ns + 2) = (k' : Nat) ∧ RgR ns k' I' J') := by
  obtain ⟨g, hg, g20⟩ := mFU_s
  by_cases z : J 1170 42 = 0
  · rw [if_pos z]
    obtain ⟨a0, b0, hq, hab, hc, hm⟩ := hS.ok z
    obtain ⟨I1, J1, rc, rr, e1, e2, f1, f2, hr⟩ := rg_loop (n := n) (c := c) (d := d) (W := W) (V := V) (p := p) (r := r) hB hL hs 5 0 g mFU I J (-1) (by omega) (by omega) (by omega) hS z h45 (by omega) (fun i hi => absurd hi (by omega))
    have e0 : D_X2_readRings_65 mFU 111 (112 + 6 + 3 * ns) (-1) 0 (st true n c I W p) = some rc := by
      rw [hg]
      show (if 6 < (0 : Int) then _ else _) = _
      rw [if_neg (by decide)]
      refine bdk y2I ?_
      rw [hc.2.2.1, if_neg (by decide), if_pos (by decide)]
      unfold D_X2_readRings_97
      rw [if_pos (by decide), if_pos (by decide)]
      exact e1
    have f2' : Fr (PRm2 ns) J J1 := f2.mono (fun x y w => Or.inl w)
    rcases hr with ⟨k', rfl, rfl, k6, hS1, z1, i2, hR⟩ | ⟨rfl, rfl, hb⟩ | ⟨a1, rfl, rfl, hcx, hmf⟩
    · have p1 : J1 1170 45 = (ns : Nat) := by rw [f2 _ _ (by unfold PRm; omega)]; exact h45
      have e3 := m_set (n := n) (d := d) (V := V) (r := r) (J := J1) (w := 2) (x := (k' : Int)) p1 hs (by decide)
      refine ⟨_, I1, u2 (u2 J1 1173 (123 + 15 * ns + 2) (k' : Int)) 1170 45 ((ns + 1 : Nat) : Int), e0, Or.inl rfl, ?_, f1, ?_, ?_, fun _ => ⟨z, u2_eq .., k', k6, i2, ?_, fun i hi => ?_⟩⟩
      · unfold D_X9_ringed_69
        refine bdk e2 (bdk z9T (bdk e3 (bdk z9I ?_)))
        rw [u2_ne _ _ (by omega), z1, if_neg (by decide)]
        refine bdk z9I ?_
        rw [u2_ne _ _ (by omega), p1, mw_n (by omega)]
        exact bdk z9P rfl
      · exact Fr.trans' f2' (fun x y w => by rw [u2_ne _ _ (fun t => w (by unfold PRm2; omega)), u2_ne _ _ (fun t => w (by unfold PRm2; omega))])
      · exact hS1.fr (fun _ _ _ => rfl) (fun x y w => by rw [u2_ne _ _ (by omega), u2_ne _ _ (by omega)])
      · rw [u2_ne _ _ (by omega)]; exact u2_eq ..
      · rw [u2_ne _ _ (by omega), u2_ne _ _ (by omega), u2_ne _ _ (by omega), u2_ne _ _ (by omega)]
        exact hR i hi
    · refine ⟨_, I1, J1, e0, Or.inr (Or.inl rfl), ?_, f1, f2', Or.inr hb, fun w => absurd w hb.nz⟩
      unfold D_X9_ringed_69
      exact bdk e2 rfl
    · refine ⟨_, cfl I1 3 (a1 : Nat), J1, e0, Or.inr (Or.inr ⟨I1, a1, rfl, hcx.2.2.2.1, hcx.2.2.1, rfl⟩), ?_, Fr.trans' f1 (fun x y w => CC.fl _ _ (fun t => w (by unfold PRc; omega))), f2', Or.inr ⟨3, _, hcx.fl (by decide), hmf⟩, fun w => absurd w hmf.nz⟩
      unfold D_X9_ringed_69
      exact bdk e2 rfl
  · rw [if_neg z]
    have hb := hS.bad z
    have e3 := m_set (n := n) (d := d) (V := V) (r := r) (J := J) (w := 2) (x := 0) h45 hs (by decide)
    refine ⟨_, I, u2 J 1173 (123 + 15 * ns + 2) 0, ?_, Or.inr (Or.inl rfl), ?_, fun _ _ _ => rfl, fun x y w => u2_ne _ _ (fun t => w (by unfold PRm2; omega)), Or.inr (hb.fr (fun _ _ _ => rfl) (fun x y w => u2_ne _ _ (by omega))), fun w => absurd w (by rw [u2_ne _ _ (by omega)]; exact z)⟩
    · rw [hg]
      show (if 6 < (0 : Int) then _ else _) = _
      rw [if_neg (by decide)]
      refine bdk y2I ?_
      obtain ⟨k0, pl, hcf, -⟩ := hb
      rw [if_pos hcf.nz]
    · unfold D_X9_ringed_69
      rw [hg]
      refine bdk (x := Sum.inl ((0 : Int), st true n d J V r)) (if_pos rfl) (bdk z9T (bdk e3 (bdk z9I ?_)))
      rw [u2_ne _ _ (by omega), if_pos z]
      rfl
/-- a sample of rings -/
theorem b_ringed (hB : ∀ k, 0 ≤ B k ∧ B k < 256) (hL : L ≤ 500) (hD : DR B ns np nr I J) (h1 : CX B L a I) (h2 : MX B L a J) (h48 : J 1170 48 = 0) (hp : I 111 6 = J 1170 40) :
    ∃ I' J1 J', D_X2_readRings 111 (st true n c I W p) = some (st true n c I' W p) ∧ D_X9_ringed 1170 (st true n d J V r) = some (st true n d J1 V r) ∧ D_X9_oneLine_397 1170 (st true n d J1 V r) = some (st true n d J' V r) ∧ Out B L a I J I' J' := by
  have n3 := hD.1.1.1
  have m45 := hD.1.2.1
  have s12 := hD.1.1.2.2.2.1
  by_cases hs : ns < 12
  · obtain ⟨v, I1, J1, a1, a2, a3, a4, a5, a6⟩ := t_new (n := n) (c := c) (d := d) (W := W) (V := V) (p := p) (r := r) (row := ns) hB hL (by omega) h1 h2 h48 hD.1 (Nat.le_refl a)
    have p1 : J1 1170 45 = (ns : Nat) := by rw [a4 _ _ (by unfold PFr; omega)]; exact m45
    have e1 := m_set (n := n) (d := d) (V := V) (r := r) (J := J1) (w := 0) (x := 1) p1 hs (by decide)
    obtain ⟨v1, w1, I3, J3, b1, b2, b3, b4, b5, b6, b7, -⟩ := t_num (n := n) (c := c) (d := d) (W := W) (V := V) (p := p) (r := r) (l1 := 0) (l2 := 0) (hi := 999) hB hL (by decide) (a5.s.fr (I' := u2 I1 (112 + 6 + 3 * ns) 0 1) (J' := u2 J1 1173 (123 + 15 * ns + 0) 1) (fun x y z => u2_ne _ _ (by omega)) (fun x y z => u2_ne _ _ (by omega))) (fun _ => rfl)
    have p3 : J3 1170 45 = (ns : Nat) := by rw [b4 _ _ (by omega), u2_ne _ _ (by omega)]; exact p1
    have e3 := m_set (n := n) (d := d) (V := V) (r := r) (J := J3) (w := 1) (x := w1) p3 hs (by decide)
    generalize hJ4 : u2 J3 1173 (123 + 15 * ns + 1) w1 = J4 at e3
    generalize hI4 : u2 I3 (112 + 6 + 3 * ns) 1 v1 = I4
    have p4 : J4 1170 45 = (ns : Nat) := by rw [← hJ4, u2_ne _ _ (by omega)]; exact p3
    obtain ⟨rc, I5, J5, c1, c2, c3, c4, c5, c6, c7⟩ := rg_all (n := n) (c := c) (d := d) (W := W) (V := V) (p := p) (r := r) hB hL hs (b5.fr (I' := I4) (J' := J4) (fun x y z => by rw [← hI4, u2_ne _ _ (by omega)]) (fun x y z => by rw [← hJ4, u2_ne _ _ (by omega)])) p4
    obtain ⟨I6, J8, s1, s2, s3', s4, hE, hZ, -⟩ := t_sign (n := n) (c := c) (d := d) (W := W) (V := V) (p := p) (r := r) (x := 59) hB hL (by decide) c6
    have fI6 : ∀ x y, ¬ ((x = 111 ∧ (y = 1 ∨ y = 2 ∨ 5 ≤ y ∧ y ≤ 7)) ∨ (112 + 6 + 3 * ns ≤ x ∧ x < 112 + 6 + 3 * ns + 3)) → I6 x y = I x y := fun x y z => by
      rw [s3' _ _ (by omega), c4 _ _ (by unfold PRc; omega), ← hI4, u2_ne _ _ (by omega), b3 _ _ (by omega), u2_ne _ _ (by omega), a3 _ _ (by omega)]
    have n6 : I6 112 3 = (ns : Nat) := by rw [fI6 _ _ (by omega)]; exact n3
    have n6' : u2 I6 186 ns v 112 3 = (ns : Nat) := by rw [u2_ne _ _ (by omega)]; exact n6
    have f7 : ∀ x y, ¬ ((x = 186 ∧ y = ns) ∨ (x = 112 ∧ y = 3)) → u2 (u2 I6 186 ns v) 112 3 ((ns + 1 : Nat) : Int) x y = I6 x y := fun x y z => by rw [u2_ne _ _ (by omega), u2_ne _ _ (by omega)]
    have e175 : D_X2_readRings_175 111 v (st true n c I5 W p) = some (st true n c (u2 (u2 I6 186 ns v) 112 3 ((ns + 1 : Nat) : Int)) W p) := by
      unfold D_X2_readRings_175
      refine bdk y2T (bdk s1 (bdk y2R10 (bdk y2R0 (bdk (t5I TB112) ?_))))
      rw [n6]
      refine bdk (s_sI h186 (by omega) (by omega)) ?_
      rw [toN]
      refine bdk y2R0 (bdk (t5I TB112) ?_)
      rw [n6', mw_n (by omega)]
      exact bdk (t5P TB112) rfl
    refine ⟨u2 (u2 I6 186 ns v) 112 3 ((ns + 1 : Nat) : Int), J5, J8, ?_, ?_, o397 s2, ?_, ?_, ?_, St.o h2.2⟩
    · unfold D_X2_readRings
      refine bdk y2R0 (bdk (t5I TB112) ?_)
      rw [n3, if_pos (by omega)]
      refine bdk y2R0 (bdk (t5R8 TB112) (bdk y2R0 (bdk (t5I TB112) ?_)))
      rw [n3]
      refine bdk (t5A3 TB112 (by omega) (by omega)) ?_
      rw [toN]
      refine bdk y2T (bdk a1 (bdk (t4B TB112 hs (Or.inr rfl)) (bdk y2T (bdk b1 (bdk (t4P TB112 hs) ?_)))))
      rw [hI4]
      refine bdk c1 ?_
      rcases c2 with rfl | rfl | ⟨I7, a7, rfl, q1, q2, rfl⟩
      · exact e175
      · exact e175
      · refine bdk y2I (bdk y2T ?_)
        rw [q1]
        exact bdk (c_fail q2) e175
    · unfold D_X9_ringed
      refine bdk z9I ?_
      rw [m45, if_pos (by omega)]
      unfold D_X9_ringed_18
      refine bdk z9I ?_
      rw [h2.2, if_pos (by decide)]
      refine bdk z9I ?_
      rw [m45]
      refine bdk z9T (bdk a2 (bdk z9T (bdk e1 (bdk z9T (bdk b2 (bdk z9T (bdk e3 (bdk z9I ?_))))))))
      by_cases z : J4 1170 42 = 0
      · rw [if_pos z] at c3
        rw [if_neg (fun w => w z)]
        exact c3
      · rw [if_neg z] at c3
        rw [if_pos z]
        exact c3
    · intro x y z
      unfold PDc at z
      rw [f7 _ _ (by omega), fI6 _ _ (by omega)]
    · intro x y z
      unfold PDm at z
      rw [s4 _ _ (by omega), c5 _ _ (by unfold PRm2 PRm; omega), ← hJ4, u2_ne _ _ (by omega), b4 _ _ (by omega), u2_ne _ _ (by omega), a4 _ _ (by unfold PFr; omega)]
    · rcases hE with ⟨a', ha, hc, hm⟩ | hE
      · have z5 := hZ hm.2
        obtain ⟨z4, j45, k', k6, i2, j2, hR⟩ := c7 z5
        have z3 : J3 1170 42 = 0 := by rw [← hJ4, u2_ne _ _ (by omega)] at z4; exact z4
        have z1 : J1 1170 42 = 0 := by have := b7 z3; rw [u2_ne _ _ (by omega)] at this; exact this
        obtain ⟨rfl, q1, q2⟩ := b6 z3
        obtain ⟨hn, -⟩ := a6 z1
        have w0 : J8 1173 (123 + 15 * ns + 0) = 1 := by rw [s4 _ _ (by omega), c5 _ _ (by unfold PRm2 PRm; omega), ← hJ4, u2_ne _ _ (by omega), b4 _ _ (by omega)]; exact u2_eq ..
        have w1 : J8 1173 (123 + 15 * ns + 1) = v1 := by rw [s4 _ _ (by omega), c5 _ _ (by unfold PRm2 PRm; omega), ← hJ4]; exact u2_eq ..
        have w2 : J8 1173 (123 + 15 * ns + 2) = (k' : Nat) := by rw [s4 _ _ (by omega)]; exact j2
        have wR : ∀ i : Nat, i < k' → I6 (112 + 6 + 3 * ns + 1) i = J8 1173 (123 + 15 * ns + (3 + i)) ∧ I6 (112 + 6 + 3 * ns + 2) i = J8 1173 (123 + 15 * ns + (9 + i)) ∧ (0 ≤ J8 1173 (123 + 15 * ns + (3 + i)) ∧ J8 1173 (123 + 15 * ns + (3 + i)) ≤ 300) ∧ 0 ≤ J8 1173 (123 + 15 * ns + (9 + i)) ∧ J8 1173 (123 + 15 * ns + (9 + i)) ≤ 9999 := fun i hi => by
          rw [s4 _ _ (by omega), s4 _ _ (by omega), s3' _ _ (by omega), s3' _ _ (by omega)]
          have := hR i hi
          exact ⟨this.1.1, this.1.2, this.2.1, this.2.2⟩
        refine Or.inl ⟨a', ns + 1, np, nr, ha, hc.fr (fun x y w => f7 x y (by omega)), hm, hD.S (v := v) hs ?_ ?_ (u2_eq ..) ?_ ?_ ?_ ?_ ?_ ?_⟩
        · intro x y w
          rw [f7 x y (by omega), fI6 _ _ (by omega)]
        · intro x y z
          rw [s4 _ _ (by unfold PNm at z; omega), c5 _ _ (by unfold PRm2 PRm; unfold PNm at z; omega), ← hJ4, u2_ne _ _ (by omega), b4 _ _ (by unfold PNm at z; omega), u2_ne _ _ (by omega), a4 _ _ (by unfold PNm at z; unfold PFr; omega)]
        · rw [s4 _ _ (by omega)]; exact j45
        · rw [u2_ne _ _ (by omega)]; exact u2_eq ..
        · exact hn.fr (fun i hi => by rw [s4 _ _ (by omega), c5 _ _ (by unfold PRm2 PRm; omega), ← hJ4, u2_ne _ _ (by omega), b4 _ _ (by omega), u2_ne _ _ (by omega)])
        · intro w hw
          have : w = 0 ∨ w = 1 ∨ w = 2 := by omega
          rw [f7 _ _ (by omega), s3' _ _ (by omega)]
          rcases this with rfl | rfl | rfl
          · rw [w0]
            show I5 (118 + 3 * ns) 0 = 1
            rw [c4 _ _ (by unfold PRc; omega), ← hI4, u2_ne _ _ (by omega), b3 _ _ (by omega), show 118 + 3 * ns = 112 + 6 + 3 * ns by omega]
            exact u2_eq ..
          · rw [w1]
            show I5 (118 + 3 * ns) 1 = v1
            rw [c4 _ _ (by unfold PRc; omega), ← hI4, show 118 + 3 * ns = 112 + 6 + 3 * ns by omega]
            exact u2_eq ..
          · rw [w2]
            rw [show 118 + 3 * ns = 112 + 6 + 3 * ns by omega]
            exact i2
        · intro _ k hk
          rw [w2] at hk
          rw [f7 _ _ (by omega), f7 _ _ (by omega)]
          have := wR k (by omega)
          rw [show 118 + 3 * ns + 1 = 112 + 6 + 3 * ns + 1 by omega, show 118 + 3 * ns + 2 = 112 + 6 + 3 * ns + 2 by omega]
          exact ⟨this.1, this.2.1⟩
        · have tN : ∀ w, w < 15 → tSa (TT J8) ns w = J8 1173 (123 + 15 * ns + w) := fun w q => TT_lo (by omega)
          unfold WFs
          rw [tN 0 (by decide), tN 1 (by decide), tN 2 (by decide), w0, w1, w2]
          refine Or.inr ⟨rfl, ⟨q1, q2⟩, by omega, fun k hk => ?_⟩
          rw [tN (3 + k) (by omega), tN (9 + k) (by omega)]
          have := wR k (by omega)
          exact ⟨this.2.2.1, this.2.2.2⟩
      · exact Or.inr (hE.fr (fun x y w => f7 x y (by omega)) (fun _ _ _ => rfl))
  · have e : ns = 12 := by omega
    subst e
    have hf1 := h1.fl (k := 3) (pl := I 111 6) (by decide)
    have hf2 := h2.wr (k := 3) (pl := J 1170 40) (by decide)
    refine ⟨cfl I 3 (I 111 6), wro J 3 (J 1170 40), wro J 3 (J 1170 40), ?_, ?_, o397 (m_mustF hf2), CC.fl.pd, MC.w.pd, Or.inr ⟨3, I 111 6, hf1, hp ▸ hf2⟩, St.o h2.2⟩
    · unfold D_X2_readRings
      refine bdk y2R0 (bdk (t5I TB112) ?_)
      rw [n3, if_neg (by omega)]
      exact bdk y2I (bdk y2T (bdk (c_fail h1.2.2.1) rfl))
    · unfold D_X9_ringed
      refine bdk z9I ?_
      rw [m45, if_neg (by omega)]
      refine bdk z9I (bdk z9T (bdk (m_wrong h2.2) ?_))
      unfold D_X9_ringed_18
      refine bdk z9I ?_
      rw [hf2.2.1.1, if_neg (by omega)]
end RD
