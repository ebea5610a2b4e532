/-! THE PURE PART: a rule more, a rule less, all taken back: both sides -/
section AD
variable {T : Td} {k x y l m : Int}
theorem addT_old {r w : Nat} (hr : r < nRu T) (hw : w < 5) : tRu (addT T k x y l m) r w = tRu T r w := by
  unfold tRu addT
  rw [if_neg (by omega), if_neg (by omega), if_neg (by omega), if_neg (by omega), if_neg (by omega), if_neg (by omega)]
theorem addT_2 : addT T k x y l m 2 = T 2 + 1 := if_pos rfl
theorem addT_lo {j : Nat} (hj : j < 2) : addT T k x y l m j = T j := by
  unfold addT
  rw [if_neg (by omega), if_neg (by omega), if_neg (by omega), if_neg (by omega), if_neg (by omega), if_neg (by omega)]
theorem addT_m0 : addT T k x y l m (3 + 5 * nRu T) = k := by
  unfold addT
  rw [if_neg (by omega), if_pos rfl]
theorem addT_m1 : addT T k x y l m (3 + 5 * nRu T + 1) = x := by
  unfold addT
  rw [if_neg (by omega), if_neg (by omega), if_pos rfl]
theorem addT_m2 : addT T k x y l m (3 + 5 * nRu T + 2) = y := by
  unfold addT
  rw [if_neg (by omega), if_neg (by omega), if_neg (by omega), if_pos rfl]
theorem addT_m3 : addT T k x y l m (3 + 5 * nRu T + 3) = l := by
  unfold addT
  rw [if_neg (by omega), if_neg (by omega), if_neg (by omega), if_neg (by omega), if_pos rfl]
theorem addT_m4 : addT T k x y l m (3 + 5 * nRu T + 4) = m := by
  unfold addT
  rw [if_neg (by omega), if_neg (by omega), if_neg (by omega), if_neg (by omega), if_neg (by omega), if_pos rfl]
theorem WF_add (hw : WF T) (hr : T 2 < 24) (hn : WFr (addT T k x y l m) (nRu T)) : WF (addT T k x y l m) := by
  have hn' := hw.1
  unfold WFn at hn'
  have h24 : 0 ≤ T 2 ∧ T 2 < 24 := ⟨hn'.2.2.1.1, hr⟩
  have hi : ∀ j, 123 ≤ j → addT T k x y l m j = T j := fun j hj => addT_n h24 hj
  refine WF_c hw ?_ (fun j hj => hi j (by omega)) (fun s hs => WFs_c (fun w hw => hi _ (by omega)) (hw.2.2.1 s hs)) (fun r hr2 => ?_)
  · unfold WFn
    rw [addT_2, addT_lo (j := 0) (by decide), addT_lo (j := 1) (by decide), hi 303 (by decide), hi 304 (by decide), hi 305 (by decide)]
    omega
  · rw [addT_2] at hr2
    by_cases q : r = nRu T
    · rw [q]; exact hn
    · have hr3 : r < nRu T := by unfold nRu at q ⊢; omega
      exact WFr_c (q := r) (fun w hw => addT_old hr3 hw) (hi 304 (by decide)) (hi 305 (by decide)) (hw.2.2.2.2 r (by unfold nRu at hr3; omega))
theorem dropT_2 {r : Nat} : dropT T r 2 = T 2 - 1 := if_pos rfl
theorem dropT_lo {r j : Nat} (hj : j < 2) : dropT T r j = T j := by
  unfold dropT
  rw [if_neg (by omega), if_neg (by omega)]
theorem dropT_hi {r j : Nat} (h : T 2 ≤ 24) (hj : 123 ≤ j) : dropT T r j = T j := by
  have : nRu T ≤ 24 := by unfold nRu; omega
  unfold dropT
  rw [if_neg (by omega), if_neg (by omega)]
theorem WF_drop {r : Nat} (hw : WF T) (hr : r < nRu T) : WF (dropT T r) := by
  have hn' := hw.1
  unfold WFn at hn'
  have hi : ∀ j, 123 ≤ j → dropT T r j = T j := fun j hj => dropT_hi (by omega) hj
  refine WF_c hw ?_ (fun j hj => hi j (by omega)) (fun s hs => WFs_c (fun w hw => hi _ (by omega)) (hw.2.2.1 s hs)) (fun q hq => ?_)
  · unfold WFn
    rw [dropT_2, dropT_lo (j := 0) (by decide), dropT_lo (j := 1) (by decide), hi 303 (by decide), hi 304 (by decide), hi 305 (by decide)]
    unfold nRu at hr
    omega
  · rw [dropT_2] at hq
    have hq2 : q < nRu T - 1 := by unfold nRu at hr ⊢; omega
    by_cases z : q < r
    · refine WFr_c (q := q) (fun w hw => ?_) (hi 304 (by decide)) (hi 305 (by decide)) (hw.2.2.2.2 q (by omega))
      unfold tRu dropT
      rw [if_neg (by omega), if_neg (by omega)]
    · refine WFr_c (q := q + 1) (fun w hw => ?_) (hi 304 (by decide)) (hi 305 (by decide)) (hw.2.2.2.2 (q + 1) (by omega))
      unfold tRu dropT
      rw [if_neg (by omega), if_pos (by omega), show 3 + 5 * q + w + 5 = 3 + 5 * (q + 1) + w by omega]
end AD
section AR
variable {n : Nat} {c : Nat × Nat × Nat × Nat} {I : Nat → Nat → Int} {W : Nat → Nat → BitVec 64} {p : Nat → Nat} {s : Sp} {k x y l m : Int}
theorem needRoom_k (h : IC s I W p) : D_X8_needRoomForRule 32 (st true n c I W p) = if sT s 2 < 24 then some (Sum.inl (), st true n c I W p) else some (Sum.inr 2, st true n (xc c) (rI I 2) W p) := by
  unfold D_X8_needRoomForRule
  refine bdk z8R1 (bdk (t5I TB34) ?_)
  rw [h.T.1.2.2.2.2.2]
  by_cases q : sT s 2 < 24
  · rw [if_pos q, if_pos q]
  · rw [if_neg q, if_neg q]
    exact bdk z8R7 (bdk (z8L110 (by decide) (by decide)) (bdk (z8S110 (by decide) (by decide)) rfl))
/-- the desk adds a rule -/
theorem x8_add (hr : sT s 2 < 24) (hn : WFr (addT (sT s) k x y l m) (nRu (sT s))) (h : IC s I W p) :
    ∃ I' W' p', ((D_X8_keepForUndo 32 (st true n c I W p)).bind fun r9 =>
      (gR r9 32 7 1).bind fun v10 =>
      (tgO r9 v10 5).bind fun _ =>
      (D_X5_addRule v10 k x y l m r9).bind fun r11 =>
      (tgO r11 32 7).bind fun _ =>
      (D_X8_renew 32 r11).bind fun r12 =>
      (gR r12 32 7 1).bind fun v13 =>
      (gI r12 v13 5 5).bind fun v14 =>
      some ((Sum.inl (mw (v14 - 1)) : Int ⊕ Nat), r12)) = some (Sum.inl (sT s 2), st true n c I' W' p') ∧ IC (chg s (addT (sT s) k x y l m)) I' W' p' ∧ HI I I' W W' := by
  have hn' := h.w.1
  unfold WFn at hn'
  obtain ⟨I1, p1, e1, k1, t1⟩ := q_keep (n := n) (c := c) h
  obtain ⟨I2, e2, t2, f2⟩ := x5_addRule (g := true) (n := n) (c := c) (W := W) (p := p1) (k := k) (x := x) (y := y) (l := l) (m := m) TB34 ⟨hn'.2.2.1.1, hr⟩ h.w.1 t1
  obtain ⟨I3, W3, e3, h3, i3⟩ := q_chg (n := n) (c := c) h k1 (f2.mono (fun b k q => q)) t2 (WF_add h.w hr hn) (fun j hj => addT_n ⟨hn'.2.2.1.1, hr⟩ (by omega))
  refine ⟨I3, W3, p1, ?_, h3, i3⟩
  refine bdk e1 (bdk z8R1 (bdk (t5T TB34) (bdk e2 (bdk z8T (bdk e3 (bdk z8R1 (bdk (t5I TB34) ?_)))))))
  have e5 : I3 34 5 = addT (sT s) k x y l m 2 := h3.T.1.2.2.2.2.2
  rw [e5, addT_2, mw_of (by omega) (by omega), show sT s 2 + 1 - 1 = sT s 2 by omega]
/-- the reference adds a rule -/
theorem x9_add (hr : sT s 2 < 24) (hn : WFr (addT (sT s) k x y l m) (nRu (sT s))) (h : IM s I) (h0 : I 1170 0 = 0) :
    ∃ I', D_X9_addsRule 1170 k x y l m (st true n c I W p) = some (sT s 2, st true n c I' W p) ∧ IM (chg s (addT (sT s) k x y l m)) I' ∧ LO I I' ∧ I' 1170 0 = 0 := by
  have hn' := h.w.1
  unfold WFn at hn'
  have h24 : 0 ≤ sT s 2 ∧ sT s 2 < 24 := ⟨hn'.2.2.1.1, hr⟩
  have hq : sT s 2 = ((nRu (sT s) : Nat) : Int) := by unfold nRu; omega
  obtain ⟨J1, e1, k2, k3, k4⟩ := m_keep (n := n) (c := c) (W := W) (p := p) h
  have t1 := RefT_keep h.T k4
  generalize hQ : nRu (sT s) = q at hq
  have q24 : q < 24 := by omega
  generalize hJ : u2 (u2 (u2 (u2 (u2 (u2 (u2 J1 1170 28 0) 1172 (3 + 5 * q) k) 1172 (3 + 5 * q + 1) x) 1172 (3 + 5 * q + 2) y) 1172 (3 + 5 * q + 3) l) 1172 (3 + 5 * q + 4) m) 1172 2 (sT s 2 + 1) = J
  have ne : ∀ b j, ¬ (b = 1172 ∧ (j = 2 ∨ (3 + 5 * q ≤ j ∧ j < 8 + 5 * q))) → ¬ (b = 1170 ∧ j = 28) → J b j = J1 b j := fun b j q1 q2 => by rw [← hJ, u2_ne _ _ (by omega), u2_ne _ _ (by omega), u2_ne _ _ (by omega), u2_ne _ _ (by omega), u2_ne _ _ (by omega), u2_ne _ _ (by omega), u2_ne _ _ (by omega)]
  have h28 : J 1170 28 = 0 := by rw [← hJ, u2_ne _ _ (by omega), u2_ne _ _ (by omega), u2_ne _ _ (by omega), u2_ne _ _ (by omega), u2_ne _ _ (by omega), u2_ne _ _ (by omega), u2_eq]
  have hi : ∀ j, 123 ≤ j → addT (sT s) k x y l m j = sT s j := fun j hj => addT_n h24 hj
  have hT : RefT (addT (sT s) k x y l m) J := by
    obtain ⟨r1, r2, r3, r4, r5, r6, r7, r8⟩ := t1
    refine ⟨fun j hj => ?_, ?_, ?_, ?_, fun k hk => ?_, fun k hk => ?_, fun k hk => ?_, fun k hk => ?_⟩
    · by_cases j2 : j = 2
      · subst j2; rw [← hJ, u2_eq, addT_2]
      by_cases j3 : 3 + 5 * q ≤ j ∧ j < 8 + 5 * q
      · have : j = 3 + 5 * q ∨ j = 3 + 5 * q + 1 ∨ j = 3 + 5 * q + 2 ∨ j = 3 + 5 * q + 3 ∨ j = 3 + 5 * q + 4 := by omega
        rcases this with rfl | rfl | rfl | rfl | rfl
        · rw [← hJ, u2_ne _ _ (by omega), u2_ne _ _ (by omega), u2_ne _ _ (by omega), u2_ne _ _ (by omega), u2_ne _ _ (by omega), u2_eq, ← hQ, addT_m0]
        · rw [← hJ, u2_ne _ _ (by omega), u2_ne _ _ (by omega), u2_ne _ _ (by omega), u2_ne _ _ (by omega), u2_eq, ← hQ, addT_m1]
        · rw [← hJ, u2_ne _ _ (by omega), u2_ne _ _ (by omega), u2_ne _ _ (by omega), u2_eq, ← hQ, addT_m2]
        · rw [← hJ, u2_ne _ _ (by omega), u2_ne _ _ (by omega), u2_eq, ← hQ, addT_m3]
        · rw [← hJ, u2_ne _ _ (by omega), u2_eq, ← hQ, addT_m4]
      · rw [ne _ _ (by omega) (by omega), r1 j hj]
        unfold addT
        rw [hQ, if_neg j2, if_neg (by omega), if_neg (by omega), if_neg (by omega), if_neg (by omega), if_neg (by omega)]
    · rw [ne _ _ (by omega) (by omega), hi _ (by omega)]; exact r2
    · rw [ne _ _ (by omega) (by omega), hi _ (by omega)]; exact r3
    · rw [ne _ _ (by omega) (by omega), hi _ (by omega)]; exact r4
    · rw [ne _ _ (by omega) (by omega), hi _ (by omega)]; exact r5 k hk
    · rw [ne _ _ (by omega) (by omega), hi _ (by omega)]; exact r6 k hk
    · rw [ne _ _ (by omega) (by omega), hi _ (by omega)]; exact r7 k hk
    · rw [ne _ _ (by omega) (by omega), hi _ (by omega)]; exact r8 k hk
  have hF : RefF (addT (sT s) k x y l m) J := by
    refine ⟨?_, Or.inl h28, fun _ w => by rw [h28] at w; cases w⟩
    rw [ne _ _ (by omega) (by omega), k4 _ _ (by omega)]
    refine h.F.1.imp id (fun w => ⟨w.1, fun t ht z hz => ?_⟩)
    have e4 : nSa (addT (sT s) k x y l m) = nSa (sT s) := by unfold nSa; rw [hi 304 (by omega)]
    rw [e4] at ht
    have t12 : t < 12 := by unfold nSa at ht; omega
    rw [ne _ _ (by omega) (by omega), k4 _ _ (by omega), FS_c (addT_lo (by decide)) (addT_lo (by decide)) hi]
    exact w.2 t ht z hz
  obtain ⟨m1, m2⟩ := m_chg h k2 k3 k4 (fun b j q => ne b j (by omega) (by omega)) hT hF (WF_add h.w hr hn) (fun j hj => hi j (by omega))
  refine ⟨J, ?_, m1, m2, by rw [ne _ _ (by omega) (by omega), k4 _ _ (by omega), h0]⟩
  unfold D_X9_addsRule
  refine bdk z9T (bdk e1 (bdk (z9B (Or.inl rfl)) (bdk z9R2 (bdk (z9L2 (by decide) (by decide)) ?_))))
  rw [show (2 : Int).toNat = 2 from rfl]
  have e2 : u2 J1 1170 28 0 1172 2 = (q : Int) := by rw [u2_ne _ _ (by omega), t1.1 2 (by decide), hq]
  rw [e2, mw_of (x := 5 * (q : Int)) (by omega) (by omega), mw_of (x := 3 + 5 * (q : Int)) (by omega) (by omega), mw_of (x := 3 + 5 * (q : Int) + 1) (by omega) (by omega), mw_of (x := 3 + 5 * (q : Int) + 2) (by omega) (by omega), mw_of (x := 3 + 5 * (q : Int) + 3) (by omega) (by omega), mw_of (x := 3 + 5 * (q : Int) + 4) (by omega) (by omega)]
  refine bdk z9R2 (bdk (z9S2 (by omega) (by omega)) (bdk z9R2 (bdk (z9S2 (by omega) (by omega)) (bdk z9R2 (bdk (z9S2 (by omega) (by omega)) (bdk z9R2 (bdk (z9S2 (by omega) (by omega)) (bdk z9R2 (bdk (z9S2 (by omega) (by omega)) (bdk z9R2 (bdk (z9L2 (by decide) (by decide)) ?_)))))))))))
  rw [show (3 + 5 * (q : Int)).toNat = 3 + 5 * q by omega, show (3 + 5 * (q : Int) + 1).toNat = 3 + 5 * q + 1 by omega, show (3 + 5 * (q : Int) + 2).toNat = 3 + 5 * q + 2 by omega, show (3 + 5 * (q : Int) + 3).toNat = 3 + 5 * q + 3 by omega, show (3 + 5 * (q : Int) + 4).toNat = 3 + 5 * q + 4 by omega, show (2 : Int).toNat = 2 from rfl]
  have e6 : u2 (u2 (u2 (u2 (u2 (u2 J1 1170 28 0) 1172 (3 + 5 * q) k) 1172 (3 + 5 * q + 1) x) 1172 (3 + 5 * q + 2) y) 1172 (3 + 5 * q + 3) l) 1172 (3 + 5 * q + 4) m 1172 2 = sT s 2 := by
    rw [u2_ne _ _ (by omega), u2_ne _ _ (by omega), u2_ne _ _ (by omega), u2_ne _ _ (by omega), u2_ne _ _ (by omega), e2, hq]
  rw [e6, mw_of (x := sT s 2 + 1) (by omega) (by omega)]
  refine bdk (z9S2 (by decide) (by decide)) (bdk z9R2 (bdk (z9L2 (by decide) (by decide)) ?_))
  rw [show (2 : Int).toNat = 2 from rfl, hJ]
  have e7 : J 1172 2 = sT s 2 + 1 := by rw [← hJ, u2_eq]
  rw [e7, mw_of (by omega) (by omega), show sT s 2 + 1 - 1 = sT s 2 by omega]
theorem within1 {w a b : Int} {σ : mS} (h : a ≤ w ∧ w ≤ b) : D_X9_within w a b σ = some 1 := by rw [within_k, if_pos h]
theorem within0 {w a b : Int} {σ : mS} (h : ¬ (a ≤ w ∧ w ≤ b)) : D_X9_within w a b σ = some 0 := by rw [within_k, if_neg h]
theorem isF1 {code kind : Int} {f : Int × mS → Option (Int × mS)} {r : Option (Int × mS)} (h0 : I 1170 0 = 0) (k : f (1, st true n c I W p) = r) : ((tgO (st true n c I W p) 1170 8).bind fun _ => (D_X9_isFine 1170 1 code kind (st true n c I W p)).bind f) = r := bdk z9T (bdk (fine1 h0) k)
/-- the reference's call of before -/
theorem x9_before {a b l m : Int} (h : IM s I) :
    if (0 ≤ a ∧ a < sT s 304) ∧ 0 ≤ b ∧ b < sT s 304 then (if a ≠ b ∧ 0 ≤ l ∧ l ≤ m ∧ m ≤ 999 then (if sT s 2 < 24 then D_X9_before 1170 a b l m (st true n c I W p) = (D_X9_addsRule 1170 0 a b l m (st true n c (zJ I) W p)).bind (fun r => some (r.1, r.2)) else D_X9_before 1170 a b l m (st true n c I W p) = some (0, st true n c (rJ (zJ I) 3 2) W p)) else D_X9_before 1170 a b l m (st true n c I W p) = some (0, st true n c (rJ (zJ I) 2 1) W p)) else D_X9_before 1170 a b l m (st true n c I W p) = some (0, st true n c (rJ (zJ I) 1 0) W p) := by
  have hn' := h.w.1
  unfold WFn at hn'
  have hZ := zJ_T h.T
  have e6 : zJ I 1170 6 = sT s 304 := hZ.2.2.1
  have m6 : mw (sT s 304 - 1) = sT s 304 - 1 := mw_of (by omega) (by omega)
  have n1 : D_X9_before_39 1170 a b l m 0 1170 (st true n c (zJ I) W p) = some (0, st true n c (rJ (zJ I) 1 0) W p) := by
    unfold D_X9_before_39
    refine bdk z9T (bdk (fine0 (kind := 0) (by decide) (by decide) zJ0) ?_)
    show (if (0 : Int) ≠ 0 then _ else _) = _
    rw [if_neg (by decide)]
  have n2 : D_X9_before_83 1170 a b l m 0 1170 (st true n c (zJ I) W p) = some (0, st true n c (rJ (zJ I) 2 1) W p) := by
    unfold D_X9_before_83 D_X9_before_116
    refine bdk z9T (bdk (fine0 (kind := 1) (by decide) (by decide) zJ0) ?_)
    show (if (0 : Int) = 0 then _ else _) = _
    rw [if_pos rfl]
  have n3 : D_X9_before_108 1170 a b l m 0 1170 (st true n c (zJ I) W p) = some (0, st true n c (rJ (zJ I) 3 2) W p) := by
    unfold D_X9_before_108 D_X9_before_116
    refine bdk z9T (bdk (fine0 (kind := 2) (by decide) (by decide) zJ0) ?_)
    show (if (0 : Int) ≠ 0 then _ else _) = _
    rw [if_neg (by decide)]
  have pre : ∀ {R : Option (Int × mS)}, (0 ≤ a ∧ a < sT s 304) ∧ 0 ≤ b ∧ b < sT s 304 → (if a = b then D_X9_before_82 1170 a b l m 1170 (st true n c (zJ I) W p) else
      (D_X9_within l 0 999 (st true n c (zJ I) W p)).bind fun r2 =>
      if r2 = 0 then
        D_X9_before_82 1170 a b l m 1170 (st true n c (zJ I) W p)
      else
        (D_X9_within m l 999 (st true n c (zJ I) W p)).bind fun r3 =>
        if r3 = 0 then
          D_X9_before_82 1170 a b l m 1170 (st true n c (zJ I) W p)
        else
          D_X9_before_83 1170 a b l m 1 1170 (st true n c (zJ I) W p)) = R → D_X9_before 1170 a b l m (st true n c I W p) = R := by
    intro R hq hR
    unfold D_X9_before
    refine bdk z9Z (bdk z9I ?_)
    rw [e6, m6]
    refine bdk (within1 (by omega)) ?_
    show (if (1 : Int) = 0 then _ else _) = _
    rw [if_neg (by decide)]
    refine bdk z9I ?_
    rw [e6, m6]
    refine bdk (within1 (by omega)) ?_
    show (if (1 : Int) = 0 then _ else _) = _
    rw [if_neg (by decide)]
    unfold D_X9_before_39
    refine bdk z9T (bdk (fine1 zJ0) ?_)
    show (if (1 : Int) ≠ 0 then _ else _) = _
    rw [if_pos (by decide)]
    exact hR
  by_cases q1 : (0 ≤ a ∧ a < sT s 304) ∧ 0 ≤ b ∧ b < sT s 304
  · rw [if_pos q1]
    by_cases q2 : a ≠ b ∧ 0 ≤ l ∧ l ≤ m ∧ m ≤ 999
    · rw [if_pos q2]
      have pre2 : ∀ {R : Option (Int × mS)}, (if (24 : Int) ≤ sT s 2 then D_X9_before_108 1170 a b l m 0 1170 (st true n c (zJ I) W p) else D_X9_before_108 1170 a b l m 1 1170 (st true n c (zJ I) W p)) = R → D_X9_before 1170 a b l m (st true n c I W p) = R := by
        intro R hR
        refine pre q1 ?_
        rw [if_neg q2.1]
        refine bdk (within1 (by omega)) ?_
        show (if (1 : Int) = 0 then _ else _) = _
        rw [if_neg (by decide)]
        refine bdk (within1 (by omega)) ?_
        show (if (1 : Int) = 0 then _ else _) = _
        rw [if_neg (by decide)]
        unfold D_X9_before_83
        refine bdk z9T (bdk (fine1 zJ0) ?_)
        show (if (1 : Int) = 0 then _ else _) = _
        rw [if_neg (by decide)]
        refine bdk z9R2 (bdk (z9L2 (by decide) (by decide)) ?_)
        rw [show (2 : Int).toNat = 2 from rfl, hZ.1 2 (by decide)]
        exact hR
      by_cases q3 : sT s 2 < 24
      · rw [if_pos q3]
        refine pre2 ?_
        rw [if_neg (by omega)]
        unfold D_X9_before_108
        refine bdk z9T (bdk (fine1 zJ0) ?_)
        show (if (1 : Int) ≠ 0 then _ else _) = _
        rw [if_pos (by decide)]
        exact bdk z9T rfl
      · rw [if_neg q3]
        refine pre2 ?_
        rw [if_pos (by omega)]
        exact n3
    · rw [if_neg q2]
      refine pre q1 ?_
      unfold D_X9_before_82
      by_cases w1 : a = b
      · rw [if_pos w1]; exact n2
      rw [if_neg w1]
      by_cases w2 : 0 ≤ l ∧ l ≤ 999
      · refine bdk (within1 w2) ?_
        show (if (1 : Int) = 0 then _ else _) = _
        rw [if_neg (by decide)]
        refine bdk (within0 (by omega)) ?_
        show (if (0 : Int) = 0 then _ else _) = _
        rw [if_pos rfl]
        exact n2
      · refine bdk (within0 w2) ?_
        show (if (0 : Int) = 0 then _ else _) = _
        rw [if_pos rfl]
        exact n2
  · rw [if_neg q1]
    unfold D_X9_before D_X9_before_38
    refine bdk z9Z (bdk z9I ?_)
    rw [e6, m6]
    by_cases w1 : 0 ≤ a ∧ a < sT s 304
    · refine bdk (within1 (by omega)) ?_
      show (if (1 : Int) = 0 then _ else _) = _
      rw [if_neg (by decide)]
      refine bdk z9I ?_
      rw [e6, m6]
      refine bdk (within0 (by omega)) ?_
      show (if (0 : Int) = 0 then _ else _) = _
      rw [if_pos rfl]
      exact n1
    · refine bdk (within0 (by omega)) ?_
      show (if (0 : Int) = 0 then _ else _) = _
      rw [if_pos rfl]
      exact n1
/-- the desk's call of before -/
theorem x8_before {a b l m : Int} (h : IC s I W p) {R : Option ((Int ⊕ Nat) × mS)} :
    (if (0 ≤ a ∧ a < sT s 304) ∧ 0 ≤ b ∧ b < sT s 304 then (if a ≠ b ∧ 0 ≤ l ∧ l ≤ m ∧ m ≤ 999 then (if sT s 2 < 24 then ((D_X8_keepForUndo 32 (st true n c I W p)).bind fun r9 =>
      (gR r9 32 7 1).bind fun v10 =>
      (tgO r9 v10 5).bind fun _ =>
      (D_X5_addRule v10 0 a b l m r9).bind fun r11 =>
      (tgO r11 32 7).bind fun _ =>
      (D_X8_renew 32 r11).bind fun r12 =>
      (gR r12 32 7 1).bind fun v13 =>
      (gI r12 v13 5 5).bind fun v14 =>
      some ((Sum.inl (mw (v14 - 1)) : Int ⊕ Nat), r12)) else some (Sum.inr 2, st true n (xc c) (rI I 2) W p)) else some (Sum.inr 1, st true n (xc c) (rI I 1) W p)) else some (Sum.inr 0, st true n (xc c) (rI I 0) W p)) = R → D_X8_before 32 a b l m (st true n c I W p) = R := by
  have no : D_X8_before_38 32 a b l m 32 (st true n c I W p) = some (Sum.inr 1, st true n (xc c) (rI I 1) W p) := by
    unfold D_X8_before_38 D_X8_before_39
    exact bdk z8T (bdk need0 rfl)
  intro hR
  unfold D_X8_before
  refine bdk z8T ?_
  rw [needSample_k h.T]
  by_cases qa : 0 ≤ a ∧ a < sT s 304
  · rw [if_pos qa]
    refine bdk rfl (bdk z8T ?_)
    rw [needSample_k h.T]
    by_cases qb : 0 ≤ b ∧ b < sT s 304
    · rw [if_pos qb]
      rw [if_pos ⟨qa, qb⟩] at hR
      refine bdk rfl ?_
      show (if a = b then _ else _) = _
      by_cases q2 : a ≠ b ∧ 0 ≤ l ∧ l ≤ m ∧ m ≤ 999
      · rw [if_pos q2] at hR
        rw [if_neg q2.1, if_neg (by omega), if_neg (by omega), if_neg (by omega)]
        unfold D_X8_before_39
        refine bdk z8T (bdk need1 (bdk z8T ?_))
        rw [needRoom_k h]
        by_cases q3 : sT s 2 < 24
        · rw [if_pos q3] at hR ⊢
          exact bdk rfl (bdk z8T hR)
        · rw [if_neg q3] at hR ⊢
          exact bdk rfl hR
      · rw [if_neg q2] at hR
        rw [← hR]
        by_cases w1 : a = b
        · rw [if_pos w1]; exact no
        rw [if_neg w1]
        by_cases w2 : l < 0
        · rw [if_pos w2]; exact no
        rw [if_neg w2]
        by_cases w3 : m < l
        · rw [if_pos w3]; exact no
        rw [if_neg w3, if_pos (by omega)]
        exact no
    · rw [if_neg qb]
      rw [if_neg (fun w => qb w.2)] at hR
      exact bdk rfl hR
  · rw [if_neg qa]
    rw [if_neg (fun w => qa w.1)] at hR
    exact bdk rfl hR
theorem a_before {a b l m : Int} : Agree n (D_X8_before 32 a b l m) (D_X9_before 1170 a b l m) cmC s := by
  by_cases q1 : (0 ≤ a ∧ a < sT s 304) ∧ 0 ≤ b ∧ b < sT s 304
  · by_cases q2 : a ≠ b ∧ 0 ≤ l ∧ l ≤ m ∧ m ≤ 999
    · by_cases q3 : sT s 2 < 24
      · have hn : ∀ _ : WF (sT s), WFr (addT (sT s) 0 a b l m) (nRu (sT s)) := fun hw => by
          have hn' := hw.1
          unfold WFn at hn'
          have hi : ∀ j, 123 ≤ j → addT (sT s) 0 a b l m j = sT s j := fun j hj => addT_n ⟨hn'.2.2.1.1, q3⟩ hj
          unfold WFr
          have t0 : tRu (addT (sT s) 0 a b l m) (nRu (sT s)) 0 = 0 := addT_m0
          have t1 : tRu (addT (sT s) 0 a b l m) (nRu (sT s)) 1 = a := addT_m1
          have t2 : tRu (addT (sT s) 0 a b l m) (nRu (sT s)) 2 = b := addT_m2
          have t3 : tRu (addT (sT s) 0 a b l m) (nRu (sT s)) 3 = l := addT_m3
          have t4 : tRu (addT (sT s) 0 a b l m) (nRu (sT s)) 4 = m := addT_m4
          rw [t0, t1, t2, t3, t4, hi 304 (by decide)]
          exact Or.inl ⟨rfl, q1.1, q1.2, q2.1, q2.2⟩
        refine ag_v (x := sT s 2) (s' := chg s (addT (sT s) 0 a b l m)) (fun c I W p h => ?_) (fun c I W p h => ?_)
        · obtain ⟨I', W', p', e, h', i'⟩ := x8_add (n := n) (c := c) q3 (hn h.w) h
          refine ⟨c, I', W', p', ?_, h', i', cn0⟩
          refine x8_before h ?_
          rw [if_pos q1, if_pos q2, if_pos q3]
          exact e
        · obtain ⟨I', e, m1, m2, m3⟩ := x9_add (n := n) (c := c) (W := W) (p := p) q3 (hn h.w) h.z zJ0
          refine ⟨I', ?_, m1, LO_z.t m2, m3⟩
          have z := x9_before (n := n) (c := c) (W := W) (p := p) (a := a) (b := b) (l := l) (m := m) h
          rw [if_pos q1, if_pos q2, if_pos q3] at z
          rw [z, e]
          rfl
      · refine ag_r (e := 2) (q8r (by decide) fun c I W p h => ?_) (v := 0) (code := 3) (q9r (by decide) fun c I W p h => ⟨zJ I, ?_, AskX_zJ h⟩) rfl (by decide)
        · refine x8_before h ?_
          rw [if_pos q1, if_pos q2, if_neg q3]
        · have z := x9_before (n := n) (c := c) (W := W) (p := p) (a := a) (b := b) (l := l) (m := m) h
          rw [if_pos q1, if_pos q2, if_neg q3] at z
          exact z
    · refine ag_r (e := 1) (q8r (by decide) fun c I W p h => ?_) (v := 0) (code := 2) (q9r (by decide) fun c I W p h => ⟨zJ I, ?_, AskX_zJ h⟩) rfl (by decide)
      · refine x8_before h ?_
        rw [if_pos q1, if_neg q2]
      · have z := x9_before (n := n) (c := c) (W := W) (p := p) (a := a) (b := b) (l := l) (m := m) h
        rw [if_pos q1, if_neg q2] at z
        exact z
  · refine ag_r (e := 0) (q8r (by decide) fun c I W p h => ?_) (v := 0) (code := 1) (q9r (by decide) fun c I W p h => ⟨zJ I, ?_, AskX_zJ h⟩) rfl (by decide)
    · refine x8_before h ?_
      rw [if_neg q1]
    · have z := x9_before (n := n) (c := c) (W := W) (p := p) (a := a) (b := b) (l := l) (m := m) h
      rw [if_neg q1] at z
      exact z
end AR
