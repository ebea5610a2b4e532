/-! THE PURE PART: what is needless, what is doomed: both sides -/
noncomputable def sameB (m : Nat) (S S' : Nat → Nat → Bool) : Bool := @decide (SameS m S S') (Classical.propDecidable _)
theorem sameB_1 {m : Nat} {S S' : Nat → Nat → Bool} (h : SameS m S S') : sameB m S S' = true := @decide_eq_true _ (Classical.propDecidable _) h
theorem sameB_0 {m : Nat} {S S' : Nat → Nat → Bool} (h : ¬ SameS m S S') : sameB m S S' = false := @decide_eq_false _ (Classical.propDecidable _) h
noncomputable def needB (T : Td) (r : Nat) : Bool := sameB (nSa T) (nS (runS T (r : Int) (FS T)).1) (lft T)
section ND
variable {n : Nat} {s : Sp}
theorem x8_need15 : ∀ (d r f : Nat) (a : Int) (c : Nat × Nat × Nat × Nat) (I : Nat → Nat → Int) (W : Nat → Nat → BitVec 64) (p : Nat → Nat), (r : Int) + d = sT s 2 → d < f → IC s I W p → FirstC 221 (nSa (sT s)) (FS (sT s)) W →
    ∃ I' W', D_X8_needless_15 f 32 a (r : Int) (st true n c I W p) = some (bitS (needB (sT s)) d r a, st true n c I' W' p) ∧ IC s I' W' p ∧ HI I I' W W' := by
  intro d
  induction d with
  | zero =>
    intro r f a c I W p hr hf h hF
    obtain ⟨f, rfl⟩ : ∃ g, f = g + 1 := ⟨f - 1, by omega⟩
    refine ⟨I, W, bdk z8R1 (bdk (t5I TB34) ?_), h, HI.r⟩
    rw [h.T.1.2.2.2.2.2, if_pos (by omega)]
    rfl
  | succ d ih =>
    intro r f a c I W p hr hf h hF
    obtain ⟨f, rfl⟩ : ∃ g, f = g + 1 := ⟨f - 1, by omega⟩
    have hn' := h.w.1
    unfold WFn at hn'
    obtain ⟨I1, W1, e1, h1, i1, w1, -, k1⟩ := q_run (g := true) (n := n) (c := c) (sk := (r : Int)) (u := 0) h hF (Or.inl rfl)
    obtain ⟨k2, -⟩ := k1 rfl
    have hF1 : FirstC 221 (nSa (sT s)) (FS (sT s)) W1 := fun t ht y hy => by
      have := m12 h
      rw [w1 _ (by unfold PW; omega)]; exact hF t ht y hy
    obtain ⟨v, ev, hv⟩ := x0_sameSpans (g := true) (n := n) (c := c) (I := I1) (p := p) h1.w.1 h1.T (fun t ht => k2.2.1.1 t ht) (fun t ht => h1.N.row ht)
    obtain ⟨I2, W2, e2, h2, i2⟩ := ih (r + 1) f (mor a (if needB (sT s) r = true then mshl 1 (r : Int) else 0)) c I1 W1 p (by omega) (by omega) h1 hF1
    refine ⟨I2, W2, bdk z8R1 (bdk (t5I TB34) ?_), h2, i1.t i2⟩
    rw [h.T.1.2.2.2.2.2, if_neg (by omega)]
    refine bdk z8R10 (bdk (n0T nb221) (bdk e1 (bdk z8R10 (bdk z8R9 (bdk (n0T nb221) (bdk ev ?_))))))
    unfold D_X8_needless_57
    rw [mw_n (by omega)]
    show (if v = 0 then _ else _) = _
    rcases hv with ⟨v1, hs⟩ | ⟨v1, hs⟩
    · have : needB (sT s) r = true := sameB_1 hs
      rw [this, if_pos rfl] at e2
      rw [if_neg (by omega)]
      show D_X8_needless_15 f 32 (mor a (mshl 1 (r : Int))) ((r + 1 : Nat) : Int) (st true n c I1 W1 p) = some (bitS (needB (sT s)) d (r + 1) (mor a (if needB (sT s) r = true then mshl 1 (r : Int) else 0)), _)
      rw [this, if_pos rfl]
      exact e2
    · have : needB (sT s) r = false := sameB_0 hs
      rw [this, if_neg (by decide)] at e2
      rw [if_pos v1]
      show D_X8_needless_15 f 32 (mor a 0) ((r + 1 : Nat) : Int) (st true n c I1 W1 p) = some (bitS (needB (sT s)) d (r + 1) (mor a (if needB (sT s) r = true then mshl 1 (r : Int) else 0)), _)
      rw [this, if_neg (by decide)]
      exact e2
theorem x9_need17 {T : Td} (hw : WF T) : ∀ (d r f : Nat) (a : Int) (c : Nat × Nat × Nat × Nat) (I : Nat → Nat → Int) (W : Nat → Nat → BitVec 64) (p : Nat → Nat), (r : Int) + d = T 2 → d < f → RX T I → WereM (nSa T) (lft T) I →
    ∃ I', D_X9_needless_17 f 1170 a (r : Int) (st true n c I W p) = some (bitS (needB T) d r a, st true n c I' W p) ∧ RX T I' ∧ Fr PX I I' := by
  have hn' := hw.1
  unfold WFn at hn'
  have hm : nSa T ≤ 12 := by unfold nSa; omega
  intro d
  induction d with
  | zero =>
    intro r f a c I W p hr hf h hW
    obtain ⟨f, rfl⟩ : ∃ g, f = g + 1 := ⟨f - 1, by omega⟩
    refine ⟨I, bdk z9R2 (bdk (z9L2 (by decide) (by decide)) ?_), h, Fr.rfl'⟩
    rw [show (2 : Int).toNat = 2 from rfl, h.1.1 2 (by decide), if_pos (by omega)]
    rfl
  | succ d ih =>
    intro r f a c I W p hr hf h hW
    obtain ⟨f, rfl⟩ : ∃ g, f = g + 1 := ⟨f - 1, by omega⟩
    obtain ⟨I1, e1, hR⟩ := r_without (n := n) (c := c) (W := W) (p := p) (r := r) hw h
    have hW1 : WereM (nSa T) (lft T) I1 := fun t ht y hy => by rw [hR.2.2.2.2.1 _ _ (by omega) (by omega)]; exact hW t ht y hy
    obtain ⟨v, ev, hv⟩ := x9_areAsWere (n := n) (c := c) (W := W) (p := p) hw.1 hR.1.1 hW1 (fun t ht y hy => hR.2.1.2.1.1 t ht y hy)
    obtain ⟨I2, e2, h2, f2⟩ := ih (r + 1) f (mor a (if needB T r = true then mshl 1 (r : Int) else 0)) c I1 W p (by omega) (by omega) hR.1 hW1
    refine ⟨I2, bdk z9R2 (bdk (z9L2 (by decide) (by decide)) ?_), h2, Fr.trans' hR.2.2.2.1 f2⟩
    rw [show (2 : Int).toNat = 2 from rfl, h.1.1 2 (by decide), if_neg (by omega)]
    refine bdk z9T (bdk e1 (bdk z9T (bdk ev ?_)))
    unfold D_X9_needless_47
    rw [mw_n (by omega)]
    show (if v = 0 then _ else _) = _
    rcases hv with ⟨v1, hs⟩ | ⟨v1, hs⟩
    · have : needB T r = true := sameB_1 (fun t ht y hy => (hs t ht y hy).symm)
      rw [this, if_pos rfl] at e2
      rw [if_neg (by omega)]
      show D_X9_needless_17 f 1170 (mor a (mshl 1 (r : Int))) ((r + 1 : Nat) : Int) (st true n c I1 W p) = some (bitS (needB T) d (r + 1) (mor a (if needB T r = true then mshl 1 (r : Int) else 0)), _)
      rw [this, if_pos rfl]
      exact e2
    · have : needB T r = false := sameB_0 (fun w => hs (fun t ht y hy => (w t ht y hy).symm))
      rw [this, if_neg (by decide)] at e2
      rw [if_pos v1]
      show D_X9_needless_17 f 1170 (mor a 0) ((r + 1 : Nat) : Int) (st true n c I1 W p) = some (bitS (needB T) d (r + 1) (mor a (if needB T r = true then mshl 1 (r : Int) else 0)), _)
      rw [this, if_neg (by decide)]
      exact e2
theorem RX.fr {T : Td} {I I' : Nat → Nat → Int} (hm : nSa T ≤ 12) (h : RX T I) (hf : Fr (fun x _ => 1230 ≤ x ∧ x < 1242) I I') : RX T I' := by
  obtain ⟨h1, h2, h3, h4, h5⟩ := h
  refine ⟨h1.fr hf (fun b k q => by omega), h2.fr hf (fun b k q => by unfold PL; omega) hm, ?_, ?_, ?_⟩
  · rw [hf _ _ (by omega)]; exact h3
  · rw [hf _ _ (by omega)]; exact h4
  · rw [hf _ _ (by omega)]; exact h5
theorem were_PX {I I' : Nat → Nat → Int} (hf : Fr (fun x _ => 1230 ≤ x ∧ x < 1242) I I') : Fr PX I I' := hf.mono (fun b k q => Or.inr (Or.inr (Or.inl q)))
theorem a_needless : Agree n (p8 (D_X8_needless 32)) (D_X9_needless 1170) (fun _ => 0) s := by
  refine ag_v (x := bitS (needB (sT s)) (nRu (sT s)) 0 0) (s' := s) (fun c I W p h => ?_) (q9v fun c I W p h => ?_)
  · have hn' := h.w.1
    unfold WFn at hn'
    obtain ⟨W1, e1, h1, i1, f1⟩ := q_take (g := true) (n := n) (c := c) h
    obtain ⟨I2, W2, e2, h2, i2⟩ := x8_need15 (n := n) (nRu (sT s)) 0 mFU 0 c I W1 p (by unfold nRu; omega) (by unfold nRu mFU; omega) h1 f1
    refine ⟨c, I2, W2, p, ?_, h2, i1.t i2, cn0⟩
    refine bdk (x := (bitS (needB (sT s)) (nRu (sT s)) 0 0, st true n c I2 W2 p)) ?_ rfl
    unfold D_X8_needless
    exact bdk z8R10 (bdk z8R9 (bdk (n0T nb221) (bdk e1 (bdk e2 rfl))))
  · have hn' := h.w.1
    unfold WFn at hn'
    have hm : nSa (sT s) ≤ 12 := by unfold nSa; omega
    obtain ⟨I1, e1, h1, f1, -, hS⟩ := laysX2 (n := n) (c := c) (W := W) (p := p) h
    obtain ⟨I2, e2, hW, f2⟩ := x9_laysWere (n := n) (c := c) (W := W) (p := p) h.w.1 h1.1 hS
    obtain ⟨I3, e3, h3, f3⟩ := x9_need17 (n := n) h.w (nRu (sT s)) 0 mFU 0 c I2 W p (by unfold nRu; omega) (by unfold nRu mFU; omega) (h1.fr hm f2) hW
    refine ⟨I3, ?_, AskX_R h3 (Fr.trans' f1 (Fr.trans' (were_PX f2) f3))⟩
    unfold D_X9_needless
    exact bdk z9Z (bdk z9T (bdk e1 (bdk z9T (bdk e2 (bdk e3 rfl)))))
/-! what is doomed -/
def dmN (T : Td) (t : Nat) : Nat → Nat → Int → Int
  | 0, _, a => a
  | d + 1, y, a => dmN T t d (y + 1) (if lft T t y = true then a + (if nCs (runS T (-1) (FP T (t : Int) (y : Int))).1 = -2 then 0 else 1) else a)
/-- pinned in what was left, or at the start: they clash alike -/
theorem pin_alike {T : Td} {t y : Nat} {F2 : Nat → Nat → Bool} (hw : WF T) (hy : lft T t y = true) (h1 : ∀ z, F2 t z = decide (z = y)) (h2 : ∀ j, j ≠ t → ∀ z, F2 j z = lft T j z) : nCs (runS T (-1) F2).1 = -2 ↔ nCs (runS T (-1) (FP T (t : Int) (y : Int))).1 = -2 := by
  have lf : ∀ j z, lft T j z = true → FS T j z = true := fun j z q => left_sub (T := T) (skip := -1) (F := FS T) q
  have key := clash_pin (T := T) (skip := -1) (F := FS T) (F1 := FP T (t : Int) (y : Int)) (F2 := F2) hw ?_ ?_ ?_
  · constructor
    · intro q
      by_cases w : nCs (runS T (-1) (FP T (t : Int) (y : Int))).1 = -2
      · exact w
      · exact absurd q (key.1 w)
    · intro q
      by_cases w : nCs (runS T (-1) F2).1 = -2
      · exact w
      · exact absurd q (key.2 w)
  · intro j _ z _ q
    by_cases e : j = t
    · subst e
      rw [FP_at.1] at q
      have : z = y := of_decide_eq_true q
      rw [this]
      exact lf _ _ hy
    · rw [FP_at.2 j e] at q
      exact q
  · intro j _ z _ q
    by_cases e : j = t
    · subst e
      rw [FP_at.1]
      rw [h1] at q
      exact q
    · rw [FP_at.2 j e]
      rw [h2 j e] at q
      exact lf _ _ q
  · intro j _ z _ q1 q2
    by_cases e : j = t
    · subst e
      rw [FP_at.1] at q1
      rw [h1]
      exact q1
    · rw [h2 j e]
      exact q2
theorem x8_doom20 {t : Nat} (ht : (t : Int) < sT s 304) : ∀ (d y f : Nat) (a : Int) (c : Nat × Nat × Nat × Nat) (I : Nat → Nat → Int) (W : Nat → Nat → BitVec 64) (p : Nat → Nat), y + d = 1000 → d < f → 0 ≤ a ∧ a ≤ (y : Int) → IC s I W p → (∀ j, j < nSa (sT s) → j ≠ t → ∀ z, z < 1024 → wb (W (221 + 2 + j)) z = (decide (z < 1000) && lft (sT s) j z)) →
    ∃ I' W', D_X8_doomed_20 f 32 (t : Int) a (y : Nat) (st true n c I W p) = some (dmN (sT s) t d y a, st true n c I' W' p) ∧ IC s I' W' p ∧ HI I I' W W' := by
  intro d
  induction d with
  | zero =>
    intro y f a c I W p hy hf ha h hF
    obtain ⟨f, rfl⟩ : ∃ g, f = g + 1 := ⟨f - 1, by omega⟩
    exact ⟨I, W, if_pos (by omega), h, HI.r⟩
  | succ d ih =>
    intro y f a c I W p hy hf ha h hF
    obtain ⟨f, rfl⟩ : ∃ g, f = g + 1 := ⟨f - 1, by omega⟩
    have hn' := h.w.1
    unfold WFn at hn'
    have hm := m12 h
    have tm : t < nSa (sT s) := by unfold nSa; omega
    have t12 : t < 12 := by omega
    have pre : ∀ {R : Option (Int × mS)}, (if (if lft (sT s) t y = true then (1 : Int) else 0) = 0 then D_X8_doomed_79 (D_X8_doomed_20 f) 32 (t : Int) a (y : Nat) (st true n c I W p) else
        (gR (st true n c I W p) 32 7 10).bind fun v5 =>
        (tgO (st true n c I W p) v5 0).bind fun _ =>
        (D_X0_pin v5 (t : Int) (y : Nat) (st true n c I W p)).bind fun r6 =>
        (gR r6 32 7 10).bind fun v7 =>
        (tgO r6 v7 0).bind fun _ =>
        (D_X0_run v7 ((-1)) 1 r6).bind fun r8 =>
        (gR r8 32 7 10).bind fun v9 =>
        (tgO r8 v9 0).bind fun _ =>
        (D_X0_hasClash v9 r8).bind fun r10 =>
        if r10 = 0 then
          D_X8_doomed_77 (D_X8_doomed_20 f) 32 (t : Int) (y : Nat) 0 a r8
        else
          D_X8_doomed_77 (D_X8_doomed_20 f) 32 (t : Int) (y : Nat) 1 a r8) = R → D_X8_doomed_20 (f + 1) 32 (t : Int) a (y : Nat) (st true n c I W p) = R := by
      intro R hR
      show (if (1000 : Int) ≤ (y : Nat) then _ else _) = _
      rw [if_neg (by omega)]
      refine bdk z8R9 (bdk (n0R3 nb188) (bdk (n0A14 nb188 (by omega) (by omega)) ?_))
      rw [toN]
      refine bdk (has_k (n0H15 nb188 t12) (by omega)) ?_
      rw [(h.N.row tm).at (by omega)]
      exact hR
    by_cases q : lft (sT s) t y = true
    · obtain ⟨W1, e1, h1, i1, f1⟩ := q_pin (g := true) (n := n) (c := c) (t := t) (y := y) (F := lft (sT s)) (F' := fun j z => if j = t then decide (z = y) else lft (sT s) j z) h tm (by omega) hF (fun z _ => if_pos rfl) (fun j hj z _ => if_neg hj)
      obtain ⟨I2, W2, e2, h2, i2, w2, k2, -⟩ := q_run (g := true) (n := n) (c := c) (sk := -1) (u := 1) h1 f1 (Or.inr rfl)
      rw [pin_alike h.w q (fun z => if_pos rfl) (fun j hj z => if_neg hj)] at k2
      have hF2 : ∀ j, j < nSa (sT s) → j ≠ t → ∀ z, z < 1024 → wb (W2 (221 + 2 + j)) z = (decide (z < 1000) && lft (sT s) j z) := fun j hj jt z hz => by
        rw [w2 _ (by unfold PW; omega), f1 j hj z hz]
        show (decide (z < 1000) && (if j = t then decide (z = y) else lft (sT s) j z)) = _
        rw [if_neg jt]
      have e0 : dmN (sT s) t (d + 1) y a = dmN (sT s) t d (y + 1) (if lft (sT s) t y = true then a + (if nCs (runS (sT s) (-1) (FP (sT s) (t : Int) (y : Int))).1 = -2 then 0 else 1) else a) := rfl
      rw [e0, if_pos q]
      by_cases k : nCs (runS (sT s) (-1) (FP (sT s) (t : Int) (y : Int))).1 = -2
      · rw [if_pos k]
        obtain ⟨I3, W3, e3, h3, i3⟩ := ih (y + 1) f (a + 0) c I2 W2 p (by omega) (by omega) (by omega) h2 hF2
        refine ⟨I3, W3, pre ?_, h3, i1.t (i2.t i3)⟩
        rw [if_pos q, if_neg (by decide)]
        refine bdk z8R10 (bdk (n0T nb221) (bdk e1 (bdk z8R10 (bdk (n0T nb221) (bdk e2 (bdk z8R10 (bdk (n0T nb221) (bdk q_clash ?_))))))))
        rw [if_pos (k2.2 k)]
        show D_X8_doomed_77 (D_X8_doomed_20 f) 32 (t : Int) (y : Nat) 0 a (st true n c I2 W2 p) = _
        unfold D_X8_doomed_77 D_X8_doomed_79
        rw [mw_n (by omega), mw_of (by omega) (by omega)]
        exact e3
      · rw [if_neg k]
        obtain ⟨I3, W3, e3, h3, i3⟩ := ih (y + 1) f (a + 1) c I2 W2 p (by omega) (by omega) (by omega) h2 hF2
        refine ⟨I3, W3, pre ?_, h3, i1.t (i2.t i3)⟩
        rw [if_pos q, if_neg (by decide)]
        refine bdk z8R10 (bdk (n0T nb221) (bdk e1 (bdk z8R10 (bdk (n0T nb221) (bdk e2 (bdk z8R10 (bdk (n0T nb221) (bdk q_clash ?_))))))))
        rw [if_neg (fun w => k (k2.1 w))]
        show D_X8_doomed_77 (D_X8_doomed_20 f) 32 (t : Int) (y : Nat) 1 a (st true n c I2 W2 p) = _
        unfold D_X8_doomed_77 D_X8_doomed_79
        rw [mw_n (by omega), mw_of (by omega) (by omega)]
        exact e3
    · have e0 : dmN (sT s) t (d + 1) y a = dmN (sT s) t d (y + 1) (if lft (sT s) t y = true then a + (if nCs (runS (sT s) (-1) (FP (sT s) (t : Int) (y : Int))).1 = -2 then 0 else 1) else a) := rfl
      rw [e0, if_neg q]
      obtain ⟨I3, W3, e3, h3, i3⟩ := ih (y + 1) f a c I W p (by omega) (by omega) (by omega) h hF
      refine ⟨I3, W3, pre ?_, h3, i3⟩
      rw [if_neg q, if_pos rfl]
      unfold D_X8_doomed_79
      rw [mw_n (by omega)]
      exact e3
theorem x9_doom27 {T : Td} {t : Nat} (hw : WF T) (ht : (t : Int) < T 304) : ∀ (d y f : Nat) (a : Int) (c : Nat × Nat × Nat × Nat) (I : Nat → Nat → Int) (W : Nat → Nat → BitVec 64) (p : Nat → Nat), y + d = 1000 → d < f → 0 ≤ a ∧ a ≤ (y : Int) → RX T I → WereM (nSa T) (lft T) I →
    ∃ I', D_X9_doomed_27 f 1170 (t : Int) a (y : Nat) (st true n c I W p) = some (dmN T t d y a, st true n c I' W p) ∧ RX T I' ∧ Fr PX I I' := by
  have hn' := hw.1
  unfold WFn at hn'
  have t12 : t < 12 := by omega
  have tm : t < nSa T := by unfold nSa; omega
  intro d
  induction d with
  | zero =>
    intro y f a c I W p hy hf ha h hW
    obtain ⟨f, rfl⟩ : ∃ g, f = g + 1 := ⟨f - 1, by omega⟩
    exact ⟨I, if_pos (by omega), h, Fr.rfl'⟩
  | succ d ih =>
    intro y f a c I W p hy hf ha h hW
    obtain ⟨f, rfl⟩ : ∃ g, f = g + 1 := ⟨f - 1, by omega⟩
    have pre : ∀ {R : Option (Int × mS)}, (if bI (lft T t y) ≠ 0 then
        (tgO (st true n c I W p) 1170 8).bind fun _ =>
        (D_X9_laysPinned 1170 (t : Int) (y : Nat) (st true n c I W p)).bind fun r4 =>
        (gI r4 1170 8 24).bind fun v5 =>
        if v5 = 0 then
          D_X9_doomed_67 (D_X9_doomed_27 f) 1170 (t : Int) (y : Nat) 0 a r4
        else
          D_X9_doomed_67 (D_X9_doomed_27 f) 1170 (t : Int) (y : Nat) 1 a r4
      else
        D_X9_doomed_69 (D_X9_doomed_27 f) 1170 (t : Int) a (y : Nat) (st true n c I W p)) = R → D_X9_doomed_27 (f + 1) 1170 (t : Int) a (y : Nat) (st true n c I W p) = R := by
      intro R hR
      show (if (1000 : Int) ≤ (y : Nat) then _ else _) = _
      rw [if_neg (by omega)]
      refine bdk z9R50 (bdk (z9A50 (by omega) (by omega)) ?_)
      rw [toN]
      refine bdk (z9L50 t12 (by omega) (by omega)) ?_
      rw [toN, hW t tm y (by omega)]
      exact hR
    have e0 : dmN T t (d + 1) y a = dmN T t d (y + 1) (if lft T t y = true then a + (if nCs (runS T (-1) (FP T (t : Int) (y : Int))).1 = -2 then 0 else 1) else a) := rfl
    by_cases q : lft T t y = true
    · obtain ⟨I1, e1, hR⟩ := r_pinned (n := n) (c := c) (W := W) (p := p) (t := t) (y := y) hw h
      have hW1 : WereM (nSa T) (lft T) I1 := fun j hj z hz => by
        have : nSa T ≤ 12 := by unfold nSa; omega
        rw [hR.2.2.2.2.1 _ _ (by omega) (by omega)]; exact hW j hj z hz
      have k2 := hR.2.2.2.2.2
      rw [e0, if_pos q]
      by_cases k : nCs (runS T (-1) (FP T (t : Int) (y : Int))).1 = -2
      · rw [if_pos k] at k2 ⊢
        obtain ⟨I3, e3, h3, f3⟩ := ih (y + 1) f (a + 0) c I1 W p (by omega) (by omega) (by omega) hR.1 hW1
        refine ⟨I3, pre ?_, h3, Fr.trans' hR.2.2.2.1 f3⟩
        rw [q, if_pos (by decide)]
        refine bdk z9T (bdk e1 (bdk z9I ?_))
        rw [k2, if_pos rfl]
        unfold D_X9_doomed_67 D_X9_doomed_69
        rw [mw_n (by omega), mw_of (by omega) (by omega)]
        exact e3
      · rw [if_neg k] at k2 ⊢
        obtain ⟨I3, e3, h3, f3⟩ := ih (y + 1) f (a + 1) c I1 W p (by omega) (by omega) (by omega) hR.1 hW1
        refine ⟨I3, pre ?_, h3, Fr.trans' hR.2.2.2.1 f3⟩
        rw [q, if_pos (by decide)]
        refine bdk z9T (bdk e1 (bdk z9I ?_))
        rw [k2, if_neg (by decide)]
        unfold D_X9_doomed_67 D_X9_doomed_69
        rw [mw_n (by omega), mw_of (by omega) (by omega)]
        exact e3
    · rw [e0, if_neg q]
      obtain ⟨I3, e3, h3, f3⟩ := ih (y + 1) f a c I W p (by omega) (by omega) (by omega) h hW
      refine ⟨I3, pre ?_, h3, f3⟩
      have qf : lft T t y = false := by
        cases z : lft T t y
        · rfl
        · exact absurd z q
      rw [qf, if_neg (by decide)]
      unfold D_X9_doomed_69
      rw [mw_n (by omega)]
      exact e3
theorem a_doomed {t : Int} : Agree n (D_X8_doomed 32 t) (D_X9_doomed 1170 t) cmN s := by
  by_cases ct : 0 ≤ t ∧ t < sT s 304
  · refine ag_v (x := dmN (sT s) t.toNat 1000 0 0) (s' := s) (fun c I W p h => ?_) (q9v fun c I W p h => ?_)
    · obtain ⟨t, rfl⟩ := Int.eq_ofNat_of_zero_le ct.1
      rw [toN]
      obtain ⟨W1, e1, h1, i1, f1⟩ := q_spans (g := true) (n := n) (c := c) h
      obtain ⟨I2, W2, e2, h2, i2⟩ := x8_doom20 (n := n) ct.2 1000 0 mFU 0 c I W1 p rfl (by decide) (by decide) h1 (fun j hj _ z hz => f1 j hj z hz)
      refine ⟨c, I2, W2, p, ?_, h2, i1.t i2, cn0⟩
      unfold D_X8_doomed
      refine bdk z8T ?_
      rw [needSample_k h.T, if_pos ct]
      have e3 : D_X8_doomed_20 mFU 32 (t : Int) 0 0 (st true n c I W1 p) = some (dmN (sT s) t 1000 0 0, st true n c I2 W2 p) := e2
      generalize dmN (sT s) t 1000 0 0 = v at e3 ⊢
      exact bdk rfl (bdk z8R10 (bdk z8R9 (bdk (n0T nb221) (bdk e1 (bdk e3 rfl)))))
    · obtain ⟨t, rfl⟩ := Int.eq_ofNat_of_zero_le ct.1
      rw [toN]
      have hn' := h.w.1
      unfold WFn at hn'
      have hm : nSa (sT s) ≤ 12 := by unfold nSa; omega
      obtain ⟨I1, e1, h1, f1, -, hS⟩ := laysX2 (n := n) (c := c) (W := W) (p := p) h
      obtain ⟨I2, e2, hW, f2⟩ := x9_laysWere (n := n) (c := c) (W := W) (p := p) h.w.1 h1.1 hS
      obtain ⟨I3, e3, h3, f3⟩ := x9_doom27 (n := n) h.w ct.2 1000 0 mFU 0 c I2 W p rfl (by decide) (by decide) (h1.fr hm f2) hW
      refine ⟨I3, ?_, AskX_R h3 (Fr.trans' f1 (Fr.trans' (were_PX f2) f3))⟩
      unfold D_X9_doomed
      refine bdk z9Z (bdk z9T ?_)
      rw [isSample_k h.w.1 (zJ_T h.T) zJ0, if_pos ct]
      refine bdk rfl ?_
      show (if (1 : Int) ≠ 0 then _ else _) = _
      rw [if_pos (by decide)]
      have e4 : D_X9_doomed_27 mFU 1170 (t : Int) 0 0 (st true n c I2 W p) = some (dmN (sT s) t 1000 0 0, st true n c I3 W p) := e3
      generalize dmN (sT s) t 1000 0 0 = v at e4 ⊢
      exact bdk z9T (bdk e1 (bdk z9T (bdk e2 (bdk e4 rfl))))
  · refine ag_r (e := 0) (q8r (by decide) fun c I W p h => ?_) (v := 0) (code := 1) (q9r (by decide) fun c I W p h => ⟨zJ I, ?_, AskX_zJ h⟩) rfl (by decide)
    · unfold D_X8_doomed
      refine bdk z8T ?_
      rw [needSample_k h.T, if_neg ct]
      exact bdk rfl rfl
    · unfold D_X9_doomed
      refine bdk z9Z (bdk z9T ?_)
      rw [isSample_k h.w.1 (zJ_T h.T) zJ0, if_neg ct]
      refine bdk rfl ?_
      show (if (0 : Int) ≠ 0 then _ else _) = _
      rw [if_neg (by decide)]
end ND
