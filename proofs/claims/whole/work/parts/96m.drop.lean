/-! THE PURE PART: bounds, drop, undo: both sides -/
section BO
variable {n : Nat} {c : Nat × Nat × Nat × Nat} {I : Nat → Nat → Int} {W : Nat → Nat → BitVec 64} {p : Nat → Nat} {s : Sp}
theorem x9_bounds {a w y : Int} (h : IM s I) :
    if 0 ≤ a ∧ a < sT s 304 then (if (2 ≤ w ∧ w ≤ 3) ∧ 0 ≤ y ∧ y ≤ 999 then (if sT s 2 < 24 then D_X9_bounds 1170 a w y (st true n c I W p) = (D_X9_addsRule 1170 w a (-1) y (-1) (st true n c (zJ I) W p)).bind (fun r => some (r.1, r.2)) else D_X9_bounds 1170 a w y (st true n c I W p) = some (0, st true n c (rJ (zJ I) 3 2) W p)) else D_X9_bounds 1170 a w y (st true n c I W p) = some (0, st true n c (rJ (zJ I) 2 1) W p)) else D_X9_bounds 1170 a w y (st true n c I W p) = some (0, st true n c (rJ (zJ I) 1 0) W p) := by
  have hZ := zJ_T h.T
  have n2 : D_X9_bounds_39 1170 a w y 0 1170 (st true n c (zJ I) W p) = some (0, st true n c (rJ (zJ I) 2 1) W p) := by
    unfold D_X9_bounds_39 D_X9_bounds_72
    refine bdk z9T (bdk (fine0 (kind := 1) (by decide) (by decide) zJ0) ?_)
    show (if (0 : Int) = 0 then _ else _) = _
    rw [if_pos rfl]
  have n3 : D_X9_bounds_64 1170 a w y 0 1170 (st true n c (zJ I) W p) = some (0, st true n c (rJ (zJ I) 3 2) W p) := by
    unfold D_X9_bounds_64 D_X9_bounds_72
    refine bdk z9T (bdk (fine0 (kind := 2) (by decide) (by decide) zJ0) ?_)
    show (if (0 : Int) ≠ 0 then _ else _) = _
    rw [if_neg (by decide)]
  by_cases q1 : 0 ≤ a ∧ a < sT s 304
  · rw [if_pos q1]
    have pre : ∀ {R : Option (Int × mS)}, ((D_X9_within w 2 3 (st true n c (zJ I) W p)).bind fun r3 =>
        if r3 = 0 then
          D_X9_bounds_38 1170 a w y 1170 (st true n c (zJ I) W p)
        else
          (D_X9_within y 0 999 (st true n c (zJ I) W p)).bind fun r4 =>
          if r4 = 0 then
            D_X9_bounds_38 1170 a w y 1170 (st true n c (zJ I) W p)
          else
            D_X9_bounds_39 1170 a w y 1 1170 (st true n c (zJ I) W p)) = R → D_X9_bounds 1170 a w y (st true n c I W p) = R := by
      intro R hR
      unfold D_X9_bounds
      refine bdk z9Z (bdk z9T ?_)
      rw [isSample_k h.w.1 hZ zJ0, if_pos q1]
      refine bdk rfl ?_
      show (if (1 : Int) = 0 then _ else _) = _
      rw [if_neg (by decide)]
      exact hR
    by_cases q2 : (2 ≤ w ∧ w ≤ 3) ∧ 0 ≤ y ∧ y ≤ 999
    · rw [if_pos q2]
      have pre2 : ∀ {R : Option (Int × mS)}, (if (24 : Int) ≤ sT s 2 then D_X9_bounds_64 1170 a w y 0 1170 (st true n c (zJ I) W p) else D_X9_bounds_64 1170 a w y 1 1170 (st true n c (zJ I) W p)) = R → D_X9_bounds 1170 a w y (st true n c I W p) = R := by
        intro R hR
        refine pre ?_
        refine bdk (within1 q2.1) ?_
        show (if (1 : Int) = 0 then _ else _) = _
        rw [if_neg (by decide)]
        refine bdk (within1 q2.2) ?_
        show (if (1 : Int) = 0 then _ else _) = _
        rw [if_neg (by decide)]
        unfold D_X9_bounds_39
        refine bdk z9T (bdk (fine1 zJ0) ?_)
        show (if (1 : Int) = 0 then _ else _) = _
        rw [if_neg (by decide)]
        refine bdk z9R2 (bdk (z9L2 (by decide) (by decide)) ?_)
        rw [show (2 : Int).toNat = 2 from rfl, hZ.1 2 (by decide)]
        exact hR
      by_cases q3 : sT s 2 < 24
      · rw [if_pos q3]
        refine pre2 ?_
        rw [if_neg (by omega)]
        unfold D_X9_bounds_64
        refine bdk z9T (bdk (fine1 zJ0) ?_)
        show (if (1 : Int) ≠ 0 then _ else _) = _
        rw [if_pos (by decide)]
        exact bdk z9T rfl
      · rw [if_neg q3]
        refine pre2 ?_
        rw [if_pos (by omega)]
        exact n3
    · rw [if_neg q2]
      refine pre ?_
      unfold D_X9_bounds_38
      by_cases w2 : 2 ≤ w ∧ w ≤ 3
      · refine bdk (within1 w2) ?_
        show (if (1 : Int) = 0 then _ else _) = _
        rw [if_neg (by decide)]
        refine bdk (within0 (by omega)) ?_
        show (if (0 : Int) = 0 then _ else _) = _
        rw [if_pos rfl]
        exact n2
      · refine bdk (within0 w2) ?_
        show (if (0 : Int) = 0 then _ else _) = _
        rw [if_pos rfl]
        exact n2
  · rw [if_neg q1]
    unfold D_X9_bounds D_X9_bounds_72
    refine bdk z9Z (bdk z9T ?_)
    rw [isSample_k h.w.1 hZ zJ0, if_neg q1]
    refine bdk rfl ?_
    show (if (0 : Int) = 0 then _ else _) = _
    rw [if_pos rfl]
theorem isYear8 {y : Int} {σ : mS} : D_X8_isYear y σ = some (if 0 ≤ y ∧ y ≤ 999 then 1 else 0) := by
  unfold D_X8_isYear D_X8_isYear_15 D_X8_isYear_16
  by_cases q1 : y < 0
  · rw [if_pos q1, if_neg (by omega)]; rfl
  rw [if_neg q1]
  by_cases q2 : 1000 ≤ y
  · rw [if_pos q2, if_neg (by omega)]; rfl
  rw [if_neg q2, if_pos (by omega)]
  rfl
theorem x8_bounds {a w y : Int} (h : IC s I W p) {R : Option ((Int ⊕ Nat) × mS)} :
    (if 0 ≤ a ∧ a < sT s 304 then (if (2 ≤ w ∧ w ≤ 3) ∧ 0 ≤ y ∧ y ≤ 999 then (if sT s 2 < 24 then ((D_X8_keepForUndo 32 (st true n c I W p)).bind fun r9 =>
      (gR r9 32 7 1).bind fun v10 =>
      (tgO r9 v10 5).bind fun _ =>
      (D_X5_addRule v10 w a (-1) y (-1) r9).bind fun r11 =>
      (tgO r11 32 7).bind fun _ =>
      (D_X8_renew 32 r11).bind fun r12 =>
      (gR r12 32 7 1).bind fun v13 =>
      (gI r12 v13 5 5).bind fun v14 =>
      some ((Sum.inl (mw (v14 - 1)) : Int ⊕ Nat), r12)) else some (Sum.inr 2, st true n (xc c) (rI I 2) W p)) else some (Sum.inr 1, st true n (xc c) (rI I 1) W p)) else some (Sum.inr 0, st true n (xc c) (rI I 0) W p)) = R → D_X8_bounds 32 a w y (st true n c I W p) = R := by
  have no : D_X8_bounds_27 32 a w y 32 (st true n c I W p) = some (Sum.inr 1, st true n (xc c) (rI I 1) W p) := by
    unfold D_X8_bounds_27 D_X8_bounds_28
    exact bdk z8T (bdk need0 rfl)
  intro hR
  unfold D_X8_bounds
  refine bdk z8T ?_
  rw [needSample_k h.T]
  by_cases qa : 0 ≤ a ∧ a < sT s 304
  · rw [if_pos qa]
    rw [if_pos qa] at hR
    refine bdk rfl ?_
    have mid : 2 ≤ w ∧ w ≤ 3 → D_X8_bounds_16 32 a w y 32 (st true n c I W p) = R := by
      intro hw
      unfold D_X8_bounds_16
      refine bdk isYear8 ?_
      by_cases qy : 0 ≤ y ∧ y ≤ 999
      · rw [if_pos qy]
        rw [if_pos ⟨hw, qy⟩] at hR
        show (if (1 : Int) = 0 then _ else _) = _
        rw [if_neg (by decide)]
        unfold D_X8_bounds_28
        refine bdk z8T (bdk need1 (bdk z8T ?_))
        rw [needRoom_k h]
        by_cases q3 : sT s 2 < 24
        · rw [if_pos q3] at hR ⊢
          exact bdk rfl (bdk z8T hR)
        · rw [if_neg q3] at hR ⊢
          exact bdk rfl hR
      · rw [if_neg qy]
        rw [if_neg (fun z => qy z.2)] at hR
        show (if (0 : Int) = 0 then _ else _) = _
        rw [if_pos rfl, no]
        exact hR
    show (if w = 2 then _ else _) = _
    by_cases w2 : w = 2
    · rw [if_pos w2]; exact mid (by omega)
    rw [if_neg w2]
    by_cases w3 : w = 3
    · rw [if_neg (fun z => z w3)]; exact mid (by omega)
    rw [if_pos w3, no]
    rw [if_neg (fun z => by omega)] at hR
    exact hR
  · rw [if_neg qa]
    rw [if_neg qa] at hR
    exact bdk rfl hR
theorem a_bounds {a w y : Int} : Agree n (D_X8_bounds 32 a w y) (D_X9_bounds 1170 a w y) cmC s := by
  by_cases q1 : 0 ≤ a ∧ a < sT s 304
  · by_cases q2 : (2 ≤ w ∧ w ≤ 3) ∧ 0 ≤ y ∧ y ≤ 999
    · by_cases q3 : sT s 2 < 24
      · have hn : ∀ _ : WF (sT s), WFr (addT (sT s) w a (-1) y (-1)) (nRu (sT s)) := fun hw => by
          have hn' := hw.1
          unfold WFn at hn'
          have hi : ∀ j, 123 ≤ j → addT (sT s) w a (-1) y (-1) j = sT s j := fun j hj => addT_n ⟨hn'.2.2.1.1, q3⟩ hj
          unfold WFr
          have t0 : tRu (addT (sT s) w a (-1) y (-1)) (nRu (sT s)) 0 = w := addT_m0
          have t1 : tRu (addT (sT s) w a (-1) y (-1)) (nRu (sT s)) 1 = a := addT_m1
          have t2 : tRu (addT (sT s) w a (-1) y (-1)) (nRu (sT s)) 2 = -1 := addT_m2
          have t3 : tRu (addT (sT s) w a (-1) y (-1)) (nRu (sT s)) 3 = y := addT_m3
          have t4 : tRu (addT (sT s) w a (-1) y (-1)) (nRu (sT s)) 4 = -1 := addT_m4
          rw [t0, t1, t2, t3, t4, hi 304 (by decide)]
          exact Or.inr (Or.inr (Or.inl ⟨by omega, q1, rfl, q2.2, rfl⟩))
        refine ag_v (x := sT s 2) (s' := chg s (addT (sT s) w a (-1) y (-1))) (fun c I W p h => ?_) (fun c I W p h => ?_)
        · obtain ⟨I', W', p', e, h', i'⟩ := x8_add (n := n) (c := c) q3 (hn h.w) h
          refine ⟨c, I', W', p', ?_, h', i', cn0⟩
          refine x8_bounds h ?_
          rw [if_pos q1, if_pos q2, if_pos q3]
          exact e
        · obtain ⟨I', e, m1, m2, m3⟩ := x9_add (n := n) (c := c) (W := W) (p := p) q3 (hn h.w) h.z zJ0
          refine ⟨I', ?_, m1, LO_z.t m2, m3⟩
          have z := x9_bounds (n := n) (c := c) (W := W) (p := p) (a := a) (w := w) (y := y) h
          rw [if_pos q1, if_pos q2, if_pos q3] at z
          rw [z, e]
          rfl
      · refine ag_r (e := 2) (q8r (by decide) fun c I W p h => ?_) (v := 0) (code := 3) (q9r (by decide) fun c I W p h => ⟨zJ I, ?_, AskX_zJ h⟩) rfl (by decide)
        · refine x8_bounds h ?_
          rw [if_pos q1, if_pos q2, if_neg q3]
        · have z := x9_bounds (n := n) (c := c) (W := W) (p := p) (a := a) (w := w) (y := y) h
          rw [if_pos q1, if_pos q2, if_neg q3] at z
          exact z
    · refine ag_r (e := 1) (q8r (by decide) fun c I W p h => ?_) (v := 0) (code := 2) (q9r (by decide) fun c I W p h => ⟨zJ I, ?_, AskX_zJ h⟩) rfl (by decide)
      · refine x8_bounds h ?_
        rw [if_pos q1, if_neg q2]
      · have z := x9_bounds (n := n) (c := c) (W := W) (p := p) (a := a) (w := w) (y := y) h
        rw [if_pos q1, if_neg q2] at z
        exact z
  · refine ag_r (e := 0) (q8r (by decide) fun c I W p h => ?_) (v := 0) (code := 1) (q9r (by decide) fun c I W p h => ⟨zJ I, ?_, AskX_zJ h⟩) rfl (by decide)
    · refine x8_bounds h ?_
      rw [if_neg q1]
    · have z := x9_bounds (n := n) (c := c) (W := W) (p := p) (a := a) (w := w) (y := y) h
      rw [if_neg q1] at z
      exact z
/-! drop -/
theorem x9_drop41 {r q : Nat} (hq : q ≤ 24) (hr : r < q) : ∀ (d k f : Nat) (J1 : Nat → Nat → Int), k + d = 3 + 5 * (q - 1) → d < f → 3 + 5 * r ≤ k → J1 1172 2 = (q : Int) →
    ∃ J', D_X9_drop_41 f 1170 (k : Nat) (st true n c J1 W p) = some (st true n c J' W p) ∧ (∀ j, k ≤ j → j < 3 + 5 * (q - 1) → J' 1172 j = J1 1172 (j + 5)) ∧ Fr (fun x j => x = 1172 ∧ k ≤ j ∧ j < 3 + 5 * (q - 1)) J1 J' := by
  intro d
  induction d with
  | zero =>
    intro k f J1 hk hf h1 h2
    obtain ⟨f, rfl⟩ : ∃ g, f = g + 1 := ⟨f - 1, by omega⟩
    refine ⟨J1, bdk z9R2 (bdk (z9L2 (by decide) (by decide)) ?_), fun j j1 j2 => by omega, Fr.rfl'⟩
    rw [show (2 : Int).toNat = 2 from rfl, h2, mw_of (x := (q : Int) - 1) (by omega) (by omega), mw_of (x := 5 * ((q : Int) - 1)) (by omega) (by omega), mw_of (x := 3 + 5 * ((q : Int) - 1)) (by omega) (by omega), if_pos (by omega)]
  | succ d ih =>
    intro k f J1 hk hf h1 h2
    obtain ⟨f, rfl⟩ : ∃ g, f = g + 1 := ⟨f - 1, by omega⟩
    obtain ⟨J', e, g1, g2⟩ := ih (k + 1) f (u2 J1 1172 k (J1 1172 (k + 5))) (by omega) (by omega) (by omega) (by rw [u2_ne _ _ (by omega)]; exact h2)
    refine ⟨J', bdk z9R2 (bdk (z9L2 (by decide) (by decide)) ?_), fun j j1 j2 => ?_, fun b j w => ?_⟩
    · rw [show (2 : Int).toNat = 2 from rfl, h2, mw_of (x := (q : Int) - 1) (by omega) (by omega), mw_of (x := 5 * ((q : Int) - 1)) (by omega) (by omega), mw_of (x := 3 + 5 * ((q : Int) - 1)) (by omega) (by omega), if_neg (by omega), mw_of (x := ((k : Nat) : Int) + 5) (by omega) (by omega)]
      refine bdk z9R2 (bdk z9R2 (bdk (z9L2 (by omega) (by omega)) (bdk (z9S2 (by omega) (by omega)) ?_)))
      rw [toN, show (((k : Nat) : Int) + 5).toNat = k + 5 by omega, mw_n (by omega)]
      exact e
    · by_cases z : j = k
      · subst z
        rw [g2 _ _ (by omega), u2_eq]
      · rw [g1 j (by omega) j2, u2_ne _ _ (by omega)]
    · rw [g2 b j (by omega), u2_ne _ _ (by omega)]
theorem a_drop {r : Int} : Agree n (D_X8_drop 32 r) (D_X9_drop 1170 r) cmN s := by
  by_cases cr : 0 ≤ r ∧ r < sT s 2
  · obtain ⟨r, rfl⟩ := Int.eq_ofNat_of_zero_le cr.1
    have hr : r < nRu (sT s) := by unfold nRu; omega
    refine ag_v (x := nG (runS (sT s) (-1) (FS (sT s))).1 r) (s' := chg s (dropT (sT s) r)) (fun c I W p h => ?_) (fun c I W p h => ?_)
    · have hn' := h.w.1
      unfold WFn at hn'
      obtain ⟨I1, p1, e1, k1, t1⟩ := q_keep (n := n) (c := c) h
      obtain ⟨I2, e2, t2, f2⟩ := x5_dropRule (g := true) (n := n) (c := c) (W := W) (p := p1) TB34 h.w.1 hr t1
      obtain ⟨I3, W3, e3, h3, i3⟩ := q_chg (n := n) (c := c) h k1 (f2.mono (fun b k q => q)) t2 (WF_drop h.w hr) (fun j hj => dropT_hi (by omega) (by omega))
      refine ⟨c, I3, W3, p1, ?_, h3, i3, cn0⟩
      unfold D_X8_drop
      refine bdk z8T ?_
      rw [needRule_k h.T, if_pos cr]
      refine bdk rfl (bdk z8R9 (bdk (n0R7 nb188) (bdk (n0L30 nb188 (by omega) (by omega)) ?_)))
      rw [toN, h.N.2.1.2.1.2.2.1 r hr]
      exact bdk z8T (bdk e1 (bdk z8R1 (bdk (t5T TB34) (bdk e2 (bdk z8T (bdk e3 rfl))))))
    · have hn' := h.w.1
      unfold WFn at hn'
      obtain ⟨J0, e0, hA, hX, h00, -⟩ := laysX (n := n) (c := c) (W := W) (p := p) h
      have hM := h.ask hX
      have hL := hA.2.2.1.1
      rw [FP_plain] at hL
      obtain ⟨J1, e1, k2, k3, k4⟩ := m_keep (n := n) (c := c) (W := W) (p := p) hM
      have t1 := RefT_keep hM.T k4
      have hq : sT s 2 = ((nRu (sT s) : Nat) : Int) := by unfold nRu; omega
      generalize hQ : nRu (sT s) = q at hq hr
      obtain ⟨J3, e3, z3, f3⟩ := x9_drop41 (n := n) (c := c) (W := W) (p := p) (q := q) (by omega) hr (3 + 5 * (q - 1) - (3 + 5 * r)) (3 + 5 * r) mFU (u2 J1 1170 28 0) (by omega) (by unfold mFU; omega) (Nat.le_refl _) (by rw [u2_ne _ _ (by omega), t1.1 2 (by decide), hq])
      generalize hJ : u2 J3 1172 2 (sT s 2 - 1) = J
      have ne : ∀ b j, ¬ (b = 1172 ∧ (j = 2 ∨ (3 + 5 * r ≤ j ∧ j < 3 + 5 * (q - 1)))) → ¬ (b = 1170 ∧ j = 28) → J b j = J1 b j := fun b j q1 q2 => by rw [← hJ, u2_ne _ _ (by omega), f3 _ _ (by omega), u2_ne _ _ q2]
      have h28 : J 1170 28 = 0 := by rw [← hJ, u2_ne _ _ (by omega), f3 _ _ (by omega), u2_eq]
      have hi : ∀ j, 123 ≤ j → dropT (sT s) r j = sT s j := fun j hj => dropT_hi (by omega) hj
      have hT : RefT (dropT (sT s) r) J := by
        obtain ⟨r1, r2, r3, r4, r5, r6, r7, r8⟩ := t1
        refine ⟨fun j hj => ?_, ?_, ?_, ?_, fun k hk => ?_, fun k hk => ?_, fun k hk => ?_, fun k hk => ?_⟩
        · by_cases j2 : j = 2
          · subst j2; rw [← hJ, u2_eq, dropT_2]
          by_cases j3 : 3 + 5 * r ≤ j ∧ j < 3 + 5 * (q - 1)
          · rw [← hJ, u2_ne _ _ (by omega), z3 j j3.1 j3.2, u2_ne _ _ (by omega), r1 _ (by omega)]
            unfold dropT
            rw [hQ, if_neg j2, if_pos j3]
          · rw [ne _ _ (by omega) (by omega), r1 j hj]
            unfold dropT
            rw [hQ, if_neg j2, if_neg j3]
        · rw [ne _ _ (by omega) (by omega), hi _ (by omega)]; exact r2
        · rw [ne _ _ (by omega) (by omega), hi _ (by omega)]; exact r3
        · rw [ne _ _ (by omega) (by omega), hi _ (by omega)]; exact r4
        · rw [ne _ _ (by omega) (by omega), hi _ (by omega)]; exact r5 k hk
        · rw [ne _ _ (by omega) (by omega), hi _ (by omega)]; exact r6 k hk
        · rw [ne _ _ (by omega) (by omega), hi _ (by omega)]; exact r7 k hk
        · rw [ne _ _ (by omega) (by omega), hi _ (by omega)]; exact r8 k hk
      have hF : RefF (dropT (sT s) r) J := by
        refine ⟨?_, Or.inl h28, fun _ w => by rw [h28] at w; cases w⟩
        rw [ne _ _ (by omega) (by omega), k4 _ _ (by omega)]
        refine hM.F.1.imp id (fun w => ⟨w.1, fun t ht z hz => ?_⟩)
        have e4 : nSa (dropT (sT s) r) = nSa (sT s) := by unfold nSa; rw [hi 304 (by omega)]
        rw [e4] at ht
        have t12 : t < 12 := by unfold nSa at ht; omega
        rw [ne _ _ (by omega) (by omega), k4 _ _ (by omega), FS_c (dropT_lo (by decide)) (dropT_lo (by decide)) hi]
        exact w.2 t ht z hz
      obtain ⟨m1, m2⟩ := m_chg hM k2 k3 k4 (fun b j q => ne b j (by omega) (by omega)) hT hF (WF_drop h.w (by rw [hQ]; exact hr)) (fun j hj => hi j (by omega))
      refine ⟨J, ?_, m1, LO.t (LO_ask hX) m2, by rw [ne _ _ (by omega) (by omega), k4 _ _ (by omega), h00]⟩
      unfold D_X9_drop
      refine bdk z9Z (bdk z9T ?_)
      rw [isRule_k h.w.1 (zJ_T h.T) zJ0, if_pos cr]
      refine bdk rfl ?_
      show (if (1 : Int) ≠ 0 then _ else _) = _
      rw [if_pos (by decide)]
      refine bdk z9T (bdk e0 (bdk z9R25 (bdk (z9L25 (by omega) (by omega)) ?_)))
      rw [toN, hL.2.1.2.1 r (by omega)]
      refine bdk z9T (bdk e1 (bdk (z9B (Or.inl rfl)) ?_))
      rw [mw_of (x := 5 * (r : Int)) (by omega) (by omega), mw_of (x := 3 + 5 * (r : Int)) (by omega) (by omega), show 3 + 5 * (r : Int) = ((3 + 5 * r : Nat) : Int) by omega]
      refine bdk e3 (bdk z9R2 (bdk (z9L2 (by decide) (by decide)) ?_))
      have e6 : J3 1172 (2 : Int).toNat = sT s 2 := by
        show J3 1172 2 = _
        rw [f3 _ _ (by omega), u2_ne _ _ (by omega), t1.1 2 (by decide)]
      rw [e6, mw_of (x := sT s 2 - 1) (by omega) (by omega)]
      refine bdk (z9S2 (by decide) (by decide)) ?_
      rw [show (2 : Int).toNat = 2 from rfl, hJ]
  · refine ag_r (e := 0) (q8r (by decide) fun c I W p h => ?_) (v := 0) (code := 1) (q9r (by decide) fun c I W p h => ⟨zJ I, ?_, AskX_zJ h⟩) rfl (by decide)
    · unfold D_X8_drop
      refine bdk z8T ?_
      rw [needRule_k h.T, if_neg cr]
      exact bdk rfl rfl
    · unfold D_X9_drop
      refine bdk z9Z (bdk z9T ?_)
      rw [isRule_k h.w.1 (zJ_T h.T) zJ0, if_neg cr]
      refine bdk rfl ?_
      show (if (0 : Int) ≠ 0 then _ else _) = _
      rw [if_neg (by decide)]
/-! undo -/
def unS (s : Sp) : Sp := (sU s (sN s - 1), sU s, sN s - 1, sL9 s, sB9 s, sF s, sX s)
theorem Good_un {s : Sp} (h : GoodS s) (hu : sN s ≠ 0) : GoodS (unS s) := by
  obtain ⟨h1, h2, h3, h4, h5⟩ := h
  have h2' : sN s ≤ 12 := h2
  refine ⟨(h4 (sN s - 1) (show sN s - 1 < sN s by omega)).1, show sN s - 1 ≤ 12 by omega, h3, fun k hk => ?_, h5⟩
  have hk' : k < sN s - 1 := hk
  have a := h4 k (show k < sN s by omega)
  have b := h4 (sN s - 1) (show sN s - 1 < sN s by omega)
  exact ⟨a.1, fun j hj => (a.2 j hj).trans (b.2 j hj).symm⟩
theorem x9_undo26 {u : Nat} (hu : u < 12) : ∀ (d k f : Nat) (J1 : Nat → Nat → Int), k + d = 303 → d < f → J1 1170 5 = (u : Int) →
    ∃ J', D_X9_undo_26 f 1170 (k : Nat) (st true n c J1 W p) = some (st true n c J' W p) ∧ (∀ j, k ≤ j → j < 303 → J' 1172 j = J1 1174 (303 * u + j)) ∧ Fr (fun x j => x = 1172 ∧ k ≤ j) J1 J' := by
  intro d
  induction d with
  | zero =>
    intro k f J1 hk hf h1
    obtain ⟨f, rfl⟩ : ∃ g, f = g + 1 := ⟨f - 1, by omega⟩
    exact ⟨J1, if_pos (by omega), fun j j1 j2 => by omega, Fr.rfl'⟩
  | succ d ih =>
    intro k f J1 hk hf h1
    obtain ⟨f, rfl⟩ : ∃ g, f = g + 1 := ⟨f - 1, by omega⟩
    obtain ⟨J', e, g1, g2⟩ := ih (k + 1) f (u2 J1 1172 k (J1 1174 (303 * u + k))) (by omega) (by omega) (by rw [u2_ne _ _ (by omega)]; exact h1)
    refine ⟨J', ?_, fun j j1 j2 => ?_, fun b j w => ?_⟩
    · show (if (303 : Int) ≤ (k : Nat) then _ else _) = _
      rw [if_neg (by omega)]
      refine bdk z9R2 (bdk z9R4 (bdk z9I ?_))
      rw [h1, mw_of (x := 303 * (u : Int)) (by omega) (by omega), mw_of (x := 303 * (u : Int) + (k : Nat)) (by omega) (by omega)]
      refine bdk (z9L4 (by omega) (by omega)) (bdk (z9S2 (by omega) (by omega)) ?_)
      rw [toN, show (303 * (u : Int) + (k : Nat)).toNat = 303 * u + k by omega, mw_n (by omega)]
      exact e
    · by_cases z : j = k
      · subst z
        rw [g2 _ _ (by omega), u2_eq]
      · rw [g1 j (by omega) j2, u2_ne _ _ (by omega)]
    · rw [g2 b j (by omega), u2_ne _ _ (by omega)]
theorem a_undo : Agree n (p8 (D_X8_undo 32)) (D_X9_undo 1170) (fun _ => 0) s := by
  by_cases hu : sN s = 0
  · refine ag_v (x := -1) (s' := s) (fun c I W p h => ⟨c, I, W, p, ?_, h, HI.r, cn0⟩) (q9v fun c I W p h => ⟨zJ I, ?_, AskX_zJ h, zJ0⟩)
    · refine bdk (x := ((-1 : Int), st true n c I W p)) ?_ rfl
      unfold D_X8_undo
      refine bdk z8I ?_
      rw [h.k.1, hu, if_neg (by decide)]
    · unfold D_X9_undo
      refine bdk z9Z (bdk z9I ?_)
      rw [zJ_ne (by omega), h.k.1, hu, if_neg (by decide)]
  · refine ag_v (x := ((sN s - 1 : Nat) : Int)) (s' := unS s) (fun c I W p h => ?_) (fun c I W p h => ?_)
    · have h12 : sN s ≤ 12 := h.1.2.1
      have hk : sN s - 1 < sN s := by omega
      have wU := (h.1.2.2.2.1 (sN s - 1) hk)
      have hP : PermP p := ⟨h.2.2.1.1, h.2.2.1.2.1⟩
      obtain ⟨tb, t282⟩ := hP.tb (k := sN s - 1) (by omega)
      have rg := TB_rng tb
      have cU : ClsT (p (sN s - 1)) (sU s (sN s - 1)) (u2 I 32 3 ((sN s - 1 : Nat) : Int)) := (h.2.2.1.2.2 (sN s - 1) hk).fr (P := fun b k => b = 32 ∧ k = 3) wU.1.1 (fun b k q => u2_ne _ _ q) (fun a k q => by omega)
      obtain ⟨I2, e2, t2, f2⟩ := x5_copy (g := true) (n := n) (c := c) (W := W) (p := p) TB34 tb (by omega) wU.1 cU
      have ne : ∀ b k, ¬ (34 ≤ b ∧ b < 108) → ¬ (b = 32 ∧ k = 3) → I2 b k = I b k := fun b k q1 q2 => by rw [f2 b k (by unfold PT; omega), u2_ne _ _ q2]
      have hg := Good_un h.1 hu
      have pre : PreC (unS s) I2 W p := by
        refine ⟨hg, ⟨t2, fun y hy => ?_⟩, ⟨hP, fun k hk2 => ?_⟩, ⟨?_, ?_, ?_⟩, fun k hk2 => ?_, fun k hk2 => ?_, h.c⟩
        · rw [ne _ _ (by omega) (by omega)]
          show I 33 y = ageS (sU s (sN s - 1)) y
          rw [ageS_c wU.2]
          exact h.A y hy
        · have hk3 : k < sN s - 1 := hk2
          obtain ⟨tk, k282⟩ := hP.tb (k := k) (by omega)
          have rk := TB_rng tk
          exact (h.2.2.1.2.2 k (show k < sN s by omega)).fr (P := fun b k => (34 ≤ b ∧ b < 108) ∨ (b = 32 ∧ k = 3)) (h.1.2.2.2.1 k (show k < sN s by omega)).1.1 (fun b k q => ne b k (by omega) (by omega)) (fun a k q => by omega)
        · rw [f2 _ _ (by unfold PT; omega), u2_eq]; rfl
        · rw [ne _ _ (by omega) (by omega)]; exact h.k.2.1
        · rw [ne _ _ (by omega) (by omega)]; exact h.k.2.2
        · rw [ne _ _ (by omega) (by omega)]; exact h.2.2.2.2.1 k hk2
        · rw [ne _ _ (by omega) (by omega)]; exact h.2.2.2.2.2.1 k hk2
      obtain ⟨I3, W3, e3, h3, i3⟩ := q_renew (n := n) (c := c) pre
      refine ⟨c, I3, W3, p, ?_, h3, ⟨fun b k q => by rw [i3.1 b k q, ne _ _ (by omega) (by omega)], i3.2⟩, cn0⟩
      refine bdk (x := (((sN s - 1 : Nat) : Int), st true n c I3 W3 p)) ?_ rfl
      unfold D_X8_undo
      refine bdk z8I ?_
      rw [h.k.1, if_pos (by omega)]
      refine bdk z8I ?_
      rw [h.k.1, mw_of (by omega) (by omega), show ((sN s : Nat) : Int) - 1 = ((sN s - 1 : Nat) : Int) by omega]
      refine bdk z8P (bdk z8R1 (bdk z8R2 (bdk z8I ?_)))
      rw [u2_eq]
      refine bdk (s_lRp (by omega) (by omega)) ?_
      rw [toN]
      refine bdk (t5T TB34) (bdk e2 (bdk z8T (bdk e3 (bdk z8I ?_))))
      rw [h3.k.1]
      rfl
    · have h12 : sN s ≤ 12 := h.1.2.1
      have hk : sN s - 1 < sN s := by omega
      have wU := (h.1.2.2.2.1 (sN s - 1) hk)
      obtain ⟨J2, e2, g2, f2⟩ := x9_undo26 (n := n) (c := c) (W := W) (p := p) (u := sN s - 1) (by omega) 303 0 mFU (u2 (zJ I) 1170 5 ((sN s - 1 : Nat) : Int)) rfl (by decide) (by rw [u2_eq])
      generalize hJ : u2 J2 1170 16 0 = J
      have ne : ∀ b j, b ≠ 1172 → ¬ (b = 1170 ∧ (j = 0 ∨ j = 5 ∨ j = 16)) → J b j = I b j := fun b j q1 q2 => by rw [← hJ, u2_ne _ _ (by omega), f2 _ _ (by omega), u2_ne _ _ (by omega), zJ_ne (by omega)]
      have h16 : J 1170 16 = 0 := by rw [← hJ, u2_eq]
      have h5 : J 1170 5 = ((sN s - 1 : Nat) : Int) := by rw [← hJ, u2_ne _ _ (by omega), f2 _ _ (by omega), u2_eq]
      have hT : RefT (sU s (sN s - 1)) J := by
        obtain ⟨r1, r2, r3, r4, r5, r6, r7, r8⟩ := h.T
        refine ⟨fun j hj => ?_, ?_, ?_, ?_, fun k hk => ?_, fun k hk => ?_, fun k hk => ?_, fun k hk => ?_⟩
        · rw [← hJ, u2_ne _ _ (by omega), g2 j (by omega) hj, u2_ne _ _ (by omega), zJ_ne (by omega)]
          exact h.2.2.2.1 (sN s - 1) hk j hj
        · rw [ne _ _ (by omega) (by omega), wU.2 _ (by omega)]; exact r2
        · rw [ne _ _ (by omega) (by omega), wU.2 _ (by omega)]; exact r3
        · rw [ne _ _ (by omega) (by omega), wU.2 _ (by omega)]; exact r4
        · rw [ne _ _ (by omega) (by omega), wU.2 _ (by omega)]; exact r5 k hk
        · rw [ne _ _ (by omega) (by omega), wU.2 _ (by omega)]; exact r6 k hk
        · rw [ne _ _ (by omega) (by omega), wU.2 _ (by omega)]; exact r7 k hk
        · rw [ne _ _ (by omega) (by omega), wU.2 _ (by omega)]; exact r8 k hk
      refine ⟨J, ?_, ⟨Good_un h.1 hu, hT, ⟨Or.inl h16, by rw [ne _ _ (by omega) (by omega)]; exact h.F.2.1, fun q => by rw [h16] at q; cases q⟩, fun k hk2 j hj => ?_, ⟨h5, ?_, ?_, ?_, ?_⟩, fun k hk2 => ?_, fun k hk2 => ?_⟩, fun b k q => ne b k (by omega) (by omega), ?_⟩
      · unfold D_X9_undo
        refine bdk z9Z (bdk z9I ?_)
        rw [zJ_ne (by omega), h.k.1, if_pos (by omega)]
        refine bdk z9I ?_
        rw [zJ_ne (by omega), h.k.1, mw_of (by omega) (by omega), show ((sN s : Nat) : Int) - 1 = ((sN s - 1 : Nat) : Int) by omega]
        refine bdk z9P (bdk e2 (bdk (z9B (Or.inl rfl)) (bdk z9I ?_)))
        rw [hJ, h5]
      · have hk3 : k < sN s - 1 := hk2
        rw [ne _ _ (by omega) (by omega)]
        exact h.2.2.2.1 k (show k < sN s by omega) j hj
      · rw [ne _ _ (by omega) (by omega)]; exact h.k.2.1
      · rw [ne _ _ (by omega) (by omega)]; exact h.k.2.2.1
      · rw [ne _ _ (by omega) (by omega)]; exact h.k.2.2.2.1
      · rw [ne _ _ (by omega) (by omega)]; exact h.k.2.2.2.2
      · rw [ne _ _ (by omega) (by omega)]; exact h.2.2.2.2.2.1 k hk2
      · rw [ne _ _ (by omega) (by omega)]; exact h.2.2.2.2.2.2 k hk2
      · rw [← hJ, u2_ne _ _ (by omega), f2 _ _ (by omega), u2_ne _ _ (by omega), zJ0]
end BO
