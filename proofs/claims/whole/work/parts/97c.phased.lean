/-! THE PURE PART: a phase's line, on both sides, whole -/
section PD
variable {n : Nat} {c d : Nat × Nat × Nat × Nat} {I J I' J' : Nat → Nat → Int} {W V : Nat → Nat → BitVec 64} {p r : Nat → Nat} {B : Nat → Int} {L q m ns np nr a b : Nat} {k pl : Int} {vs : Nat → Int}
def PPm2 (np : Nat) (x y : Nat) : Prop := PPm np x y ∨ (x = 1226 ∧ y = np) ∨ (x = 1170 ∧ y = 46)
theorem z9S34' {i : Nat} {x : Int} (h : i < 4) : sI (st true n c I W p) 1226 (i : Int) x = some (st true n c (u2 I 1226 i x) W p) := z9S34 (by omega) (by omega)
def phK (r4 : (Int × mS) ⊕ mS) : Option mS :=
  match r4 with
  | (Sum.inl z5) =>
    (gR z5.2 1170 8 34).bind fun v6 => (gI z5.2 1170 8 46).bind fun v7 => (sI z5.2 v6 v7 z5.1).bind fun s8 => (gI s8 1170 8 46).bind fun v9 => (pI s8 1170 8 46 (mw (v9 + 1))).bind fun s10 => some s10
  | (Sum.inr z11) => some z11
theorem ph_all {v : Int} (hB : ∀ k, 0 ≤ B k ∧ B k < 256) (hL : L ≤ 500) (hs : np < 4) (hS : N2 B L q 1 (fun _ => v) I J) (hN : NM B ns np nr I J) (h0 : I (112 + 42 + 2 * np) 0 = 0) :
    ∃ rc I' J', D_X2_readPhase_49 mFU 111 (112 + 42 + 2 * np) v 0 (st true n c I W p) = some rc ∧ (rc = Sum.inl (st true n c I' W p) ∨ rc = Sum.inr (Sum.inr (st true n c I' W p)) ∨ ∃ (I5 : Nat → Nat → Int) (a : Nat), rc = Sum.inr (Sum.inl (st true n c I5 W p)) ∧ I5 111 5 = (a : Nat) ∧ I5 111 1 = 0 ∧ I' = cfl I5 3 (a : Nat)) ∧
      ((D_X9_phaseLine_38 mFU 1170 0 (st true n d J V r)).bind phK) = some (st true n d J' V r) ∧ Fr (PPc np) I I' ∧ Fr (PPm2 np) J J' ∧ S2 B L q I' J' ∧
      (J' 1170 42 = 0 → J 1170 42 = 0 ∧ J' 1170 46 = ((np + 1 : Nat) : Int) ∧ ∃ (k' : Nat) (vs' : Nat → Int), (1 ≤ k' ∧ k' ≤ 6) ∧ I' (112 + 42 + 2 * np) 0 = (k' : Nat) ∧ J' 1226 np = (k' : Nat) ∧ MbR ns np k' vs' I' J') := by
  obtain ⟨g, hg, g20⟩ := mFU_s
  rcases hS with ⟨a0, hq, hc, hm, hK⟩ | hb
  · obtain ⟨I1, J1, rc, rr, e1, e2, f1, f2, hr⟩ := ph_loop (n := n) (c := c) (d := d) (W := W) (V := V) (p := p) (r := r) hB hL hs 6 0 mFU mFU I J (fun _ => v) a0 (by omega) (by omega) (by omega) hc hm hK hq hN h0 (fun i hi => absurd hi (by omega))
    have f2' : Fr (PPm2 np) J J1 := f2.mono (fun x y w => Or.inl w)
    rcases hr with ⟨k', vs', rfl, rfl, k6, hS1, z1, i2, hR⟩ | ⟨rfl, rfl, hb⟩ | ⟨a1, rfl, rfl, hcx, hmf⟩
    · have p1 : J1 1170 46 = (np : Nat) := by rw [f2 _ _ (by unfold PPm PNm; omega)]; exact hN.2.2.1
      refine ⟨_, I1, u2 (u2 J1 1226 np (k' : Int)) 1170 46 ((np + 1 : Nat) : Int), e1, Or.inl rfl, bdk e2 ?_, f1, ?_, ?_, fun _ => ⟨hm.2, u2_eq .., k', vs', k6, i2, ?_, fun i hi => ?_⟩⟩
      · unfold phK
        refine bdk z9R34 (bdk z9I ?_)
        rw [p1]
        refine bdk (z9S34' hs) (bdk z9I ?_)
        rw [u2_ne _ _ (by omega), p1, mw_n (by omega)]
        exact bdk z9P rfl
      · exact Fr.trans' f2' (fun x y w => by rw [u2_ne _ _ (fun t => w (by unfold PPm2; omega)), u2_ne _ _ (fun t => w (by unfold PPm2; omega))])
      · exact hS1.fr (fun _ _ _ => rfl) (fun x y w => by rw [u2_ne _ _ (by omega), u2_ne _ _ (by omega)])
      · rw [u2_ne _ _ (by omega)]; exact u2_eq ..
      · rw [u2_ne _ _ (by omega), u2_ne _ _ (by omega)]
        exact hR i hi
    · exact ⟨_, I1, J1, e1, Or.inr (Or.inl rfl), bdk e2 rfl, f1, f2', Or.inr hb, fun w => absurd w hb.nz⟩
    · exact ⟨_, cfl I1 3 (a1 : Nat), J1, e1, Or.inr (Or.inr ⟨I1, a1, rfl, hcx.2.2.2.1, hcx.2.2.1, rfl⟩), bdk e2 rfl, Fr.trans' f1 (fun x y w => CC.fl _ _ (fun t => w (by unfold PPc; omega))), f2', Or.inr ⟨3, _, hcx.fl (by decide), hmf⟩, fun w => absurd w hmf.nz⟩
  · obtain ⟨k0, pl, hcf, hmf⟩ := hb
    obtain ⟨J2, e2, c2, f2⟩ := m_knownF (n := n) (c := d) (W := V) (p := r) (ph := 0) hB hL hmf
    refine ⟨_, I, J2, ?_, Or.inr (Or.inl rfl), ?_, fun _ _ _ => rfl, fun x y w => c2 _ _ (fun t => w (by unfold PPm2 PPm PNm; omega)), Or.inr ⟨_, _, hcf, f2⟩, fun w => absurd w f2.nz⟩
    · rw [hg]
      show (if 6 < (0 : Int) then _ else _) = _
      rw [if_neg (by decide)]
      refine bdk y2I ?_
      rw [if_pos hcf.nz]
    · rw [hg]
      refine bdk (x := Sum.inr (st true n d J2 V r)) ?_ rfl
      show (if (0 : Int) = 0 then _ else _) = _
      rw [if_pos rfl]
      unfold D_X9_phaseLine_49 D_X9_phaseLine_64
      rw [if_pos (by decide)]
      refine bdk z9T (bdk e2 (bdk z9I ?_))
      rw [f2.2.1.1, if_neg (by have := f2.2.1.2; omega)]
/-- a phase -/
theorem b_phase (hB : ∀ k, 0 ≤ B k ∧ B k < 256) (hL : L ≤ 500) (hD : DR B ns np nr I J) (h1 : CX B L a I) (h2 : MX B L a J) (h48 : J 1170 48 = 0) (hp : I 111 6 = J 1170 40) :
    ∃ I' J1 J', D_X2_readPhase 111 (st true n c I W p) = some (st true n c I' W p) ∧ D_X9_phaseLine 1170 (st true n d J V r) = some (st true n d J1 V r) ∧ D_X9_oneLine_397 1170 (st true n d J1 V r) = some (st true n d J' V r) ∧ Out B L a I J I' J' := by
  have n4 := hD.1.1.2.1
  have m46 := hD.1.2.2.1
  have l4 := hD.1.1.2.2.2.2.1
  by_cases hs : np < 4
  · obtain ⟨v, I1, J1, a1, a2, a3, a4, a5, a6⟩ := t_new (n := n) (c := c) (d := d) (W := W) (V := V) (p := p) (r := r) (row := 12 + np) hB hL (by omega) h1 h2 h48 hD.1 (Nat.le_refl a)
    have hN1 : NM B ns np nr I1 J1 := by
      obtain ⟨hn1, hn45, hn46, hnl, hnS, hnP⟩ := hD.1
      have e2 : (fun k => I1 186 k) = fun k => I 186 k := funext fun _ => a3.ne (by decide)
      have e3 : (fun k => I1 187 k) = fun k => I 187 k := funext fun _ => a3.ne (by decide)
      unfold NM
      rw [e2, e3]
      refine ⟨hn1.fr (fun _ => a3.ne (by decide)), by rw [a4 _ _ (by unfold PFr; omega)]; exact hn45, by rw [a4 _ _ (by unfold PFr; omega)]; exact hn46, hnl, fun k hk => (hnS k hk).fr (fun i hi => a4 _ _ (by unfold PFr; omega)), fun k hk => (hnP k hk).fr (fun i hi => a4 _ _ (by unfold PFr; omega))⟩
    have hI2 : ∀ x y, ¬ (x = 112 + 42 + 2 * np ∧ y = 0) → u2 I1 (112 + 42 + 2 * np) 0 0 x y = I1 x y := fun x y w => u2_ne _ _ w
    have hS2 : N2 B L a 1 (fun _ => v) (u2 I1 (112 + 42 + 2 * np) 0 0) J1 := by
      rcases a5 with ⟨a', w1, w2, w3, w4⟩ | hb
      · exact Or.inl ⟨a', w1, w2.fr (fun x y w => hI2 _ _ (by omega)), w3, w4⟩
      · exact Or.inr (hb.fr (fun x y w => hI2 _ _ (by omega)) (fun _ _ _ => rfl))
    have hN2 : NM B ns np nr (u2 I1 (112 + 42 + 2 * np) 0 0) J1 := hN1.fr (fun _ => hI2 _ _ (by omega)) (fun _ => hI2 _ _ (by omega)) (fun _ => hI2 _ _ (by omega)) rfl rfl (fun _ => rfl)
    obtain ⟨rc, I5, J5, c1, c2, c3, c4, c5, c6, c7⟩ := ph_all (n := n) (c := c) (d := d) (W := W) (V := V) (p := p) (r := r) hB hL hs hS2 hN2 (u2_eq ..)
    obtain ⟨I6, J8, s1, s2, s3', s4, hE, hZ, -⟩ := t_sign (n := n) (c := c) (d := d) (W := W) (V := V) (p := p) (r := r) (x := 59) hB hL (by decide) c6
    have fI6 : ∀ x y, ¬ ((x = 111 ∧ (y = 1 ∨ y = 2 ∨ 5 ≤ y ∧ y ≤ 7)) ∨ (112 + 42 + 2 * np ≤ x ∧ x < 112 + 42 + 2 * np + 2)) → I6 x y = I x y := fun x y z => by
      rw [s3' _ _ (by omega), c4 _ _ (by unfold PPc; omega), hI2 _ _ (by omega), a3 _ _ (by omega)]
    have n6 : I6 112 4 = (np : Nat) := by rw [fI6 _ _ (by omega)]; exact n4
    have n6' : u2 I6 187 np v 112 4 = (np : Nat) := by rw [u2_ne _ _ (by omega)]; exact n6
    have f7 : ∀ x y, ¬ ((x = 187 ∧ y = np) ∨ (x = 112 ∧ y = 4)) → u2 (u2 I6 187 np v) 112 4 ((np + 1 : Nat) : Int) x y = I6 x y := fun x y z => by rw [u2_ne _ _ (by omega), u2_ne _ _ (by omega)]
    have e123 : D_X2_readPhase_123 111 v (st true n c I5 W p) = some (st true n c (u2 (u2 I6 187 np v) 112 4 ((np + 1 : Nat) : Int)) W p) := by
      unfold D_X2_readPhase_123
      refine bdk y2T (bdk s1 (bdk y2R11 (bdk y2R0 (bdk (t5I TB112) ?_))))
      rw [n6]
      refine bdk (s_sI h187 (by omega) (by omega)) ?_
      rw [toN]
      refine bdk y2R0 (bdk (t5I TB112) ?_)
      rw [n6', mw_n (by omega)]
      exact bdk (t5P TB112) rfl
    refine ⟨u2 (u2 I6 187 np v) 112 4 ((np + 1 : Nat) : Int), J5, J8, ?_, ?_, o397 s2, ?_, ?_, ?_, St.o h2.2⟩
    · unfold D_X2_readPhase
      refine bdk y2R0 (bdk (t5I TB112) ?_)
      rw [n4, if_pos (by omega)]
      refine bdk y2R0 (bdk (t5R9 TB112) (bdk y2R0 (bdk (t5I TB112) ?_)))
      rw [n4]
      refine bdk (t5A4 TB112 (by omega) (by omega)) ?_
      rw [toN]
      refine bdk y2T (bdk a1 (bdk (t1P TB112 hs) ?_))
      refine bdk c1 ?_
      rcases c2 with rfl | rfl | ⟨I7, a7, rfl, q1, q2, rfl⟩
      · exact e123
      · exact e123
      · refine bdk y2I (bdk y2T ?_)
        rw [q1]
        exact bdk (c_fail q2) e123
    · unfold D_X9_phaseLine
      refine bdk z9I ?_
      rw [m46, if_pos (by omega)]
      unfold D_X9_phaseLine_17
      refine bdk z9I ?_
      rw [h2.2, if_pos (by decide)]
      refine bdk z9I ?_
      rw [m46, show mw (12 + (np : Int)) = ((12 + np : Nat) : Int) by rw [mw_of (by omega) (by omega)]; omega]
      exact bdk z9T (bdk a2 c3)
    · intro x y z
      unfold PDc at z
      rw [f7 _ _ (by omega), fI6 _ _ (by omega)]
    · intro x y z
      unfold PDm at z
      rw [s4 _ _ (by omega), c5 _ _ (by unfold PPm2 PPm PNm; omega), a4 _ _ (by unfold PFr; omega)]
    · rcases hE with ⟨a', ha, hc, hm⟩ | hE
      · have z5 := hZ hm.2
        obtain ⟨z1, j46, k', vs', k6, i2, j2, hR⟩ := c7 z5
        obtain ⟨hn, -⟩ := a6 z1
        have w2 : J8 1226 np = (k' : Nat) := by rw [s4 _ _ (by omega)]; exact j2
        have wR : ∀ i : Nat, i < k' → I6 (112 + 42 + 2 * np + 1) i = J8 1227 (6 * np + i) ∧ (0 ≤ I6 (112 + 42 + 2 * np + 1) i ∧ I6 (112 + 42 + 2 * np + 1) i < ns) ∧ ∀ j, j < i → I6 (112 + 42 + 2 * np + 1) j ≠ I6 (112 + 42 + 2 * np + 1) i := fun i hi => by
          have := hR i hi
          rw [s4 _ _ (by omega), s3' _ _ (by omega)]
          exact ⟨this.1, this.2.1, fun j hj => by rw [s3' _ _ (by omega)]; exact this.2.2.2 j hj⟩
        have e154 : 154 + 2 * np = 112 + 42 + 2 * np := by omega
        refine Or.inl ⟨a', ns, np + 1, nr, ha, hc.fr (fun x y w => f7 x y (by omega)), hm, hD.P (v := v) hs ?_ ?_ (u2_eq ..) ?_ ?_ ?_ ?_ ?_ ?_ ?_ ?_⟩
        · intro x y w
          rw [f7 x y (by omega), fI6 _ _ (by omega)]
        · intro x y z
          rw [s4 _ _ (by unfold PNm at z; omega), c5 _ _ (by unfold PPm2 PPm PNm; unfold PNm at z; omega), a4 _ _ (by unfold PNm at z; unfold PFr; omega)]
        · rw [s4 _ _ (by omega)]; exact j46
        · rw [u2_ne _ _ (by omega)]; exact u2_eq ..
        · exact hn.fr (fun i hi => by rw [s4 _ _ (by omega), c5 _ _ (by unfold PPm2 PPm PNm; omega)])
        · rw [f7 _ _ (by omega), s3' _ _ (by omega), w2, e154]
          exact i2
        · intro k hk
          rw [w2] at hk
          rw [f7 _ _ (by omega), e154]
          exact (wR k (by omega)).1
        · rw [w2]; omega
        · intro k hk
          rw [w2] at hk
          have := wR k (by omega)
          rw [← this.1]
          exact this.2.1
        · intro k j hkj hj
          rw [w2] at hj
          rw [← (wR k (by omega)).1, ← (wR j (by omega)).1]
          exact (wR j (by omega)).2.2 k hkj
      · exact Or.inr (hE.fr (fun x y w => f7 x y (by omega)) (fun _ _ _ => rfl))
  · have e : np = 4 := by omega
    subst e
    have hf1 := h1.fl (k := 3) (pl := I 111 6) (by decide)
    have hf2 := h2.wr (k := 3) (pl := J 1170 40) (by decide)
    refine ⟨cfl I 3 (I 111 6), wro J 3 (J 1170 40), wro J 3 (J 1170 40), ?_, ?_, o397 (m_mustF hf2), CC.fl.pd, MC.w.pd, Or.inr ⟨3, I 111 6, hf1, hp ▸ hf2⟩, St.o h2.2⟩
    · unfold D_X2_readPhase
      refine bdk y2R0 (bdk (t5I TB112) ?_)
      rw [n4, if_neg (by omega)]
      exact bdk y2I (bdk y2T (bdk (c_fail h1.2.2.1) rfl))
    · unfold D_X9_phaseLine
      refine bdk z9I ?_
      rw [m46, if_neg (by omega)]
      refine bdk z9I (bdk z9T (bdk (m_wrong h2.2) ?_))
      unfold D_X9_phaseLine_17
      refine bdk z9I ?_
      rw [hf2.2.1.1, if_neg (by omega)]
end PD
