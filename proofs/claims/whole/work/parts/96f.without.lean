/-! THE PURE PART: without a rule, a year pinned, blame, what is needless, what is doomed: both sides -/
section WI
variable {n : Nat} {s : Sp}
theorem a_without {r x : Int} : Agree n (D_X8_without 32 r x) (D_X9_without 1170 r x) cmB s := by
  by_cases cr : 0 ≤ r ∧ r < sT s 2
  · by_cases cx : 0 ≤ x ∧ x ≤ 2
    · refine ag_v (x := supS (sT s) (runS (sT s) r (FS (sT s))) x) (s' := s) (fun c I W p h => ?_) (q9v fun c I W p h => ?_)
      · obtain ⟨W1, e1, h1, i1, f1⟩ := q_take (g := true) (n := n) (c := c) h
        obtain ⟨I2, W2, e2, h2, i2, -, -, k2⟩ := q_run (g := true) (n := n) (c := c) (sk := r) (u := 0) h1 f1 (Or.inl rfl)
        obtain ⟨k3, k4⟩ := k2 rfl
        refine ⟨c, I2, W2, p, ?_, h2, i1.t i2, cn0⟩
        unfold D_X8_without
        refine bdk z8T ?_
        rw [needRule_k h.T, if_pos cr]
        refine bdk rfl ?_
        show (if x < 0 then _ else _) = _
        rw [if_neg (by omega), if_neg (by omega)]
        unfold D_X8_without_20
        exact bdk z8T (bdk need1 (bdk z8R10 (bdk z8R9 (bdk (n0T nb221) (bdk e1 (bdk z8R10 (bdk (n0T nb221) (bdk e2 (bdk z8T (bdk (q_of h2 k3 k4) rfl))))))))))
      · obtain ⟨r, rfl⟩ := Int.eq_ofNat_of_zero_le cr.1
        obtain ⟨I', e, hR⟩ := r_without (n := n) (c := c) (W := W) (p := p) (r := r) h.w (RX_zJ h)
        refine ⟨I', ?_, AskX_R hR.1 (Fr.trans' PX_zJ hR.2.2.2.1)⟩
        unfold D_X9_without
        refine bdk z9Z (bdk z9T ?_)
        rw [isRule_k h.w.1 (zJ_T h.T) zJ0, if_pos cr]
        refine bdk rfl ?_
        show (if (1 : Int) = 0 then _ else _) = _
        rw [if_neg (by decide)]
        refine bdk within_k ?_
        rw [if_pos cx]
        refine bdk z9T (bdk (fine1 zJ0) ?_)
        show (if (1 : Int) ≠ 0 then _ else _) = _
        rw [if_pos (by decide)]
        exact bdk z9T (bdk e (bdk z9T (bdk (r_toldBy h.w hR) rfl)))
    · refine ag_r (e := 1) (q8r (by decide) fun c I W p h => ?_) (v := 0) (code := 2) (q9r (by decide) fun c I W p h => ⟨zJ I, ?_, AskX_zJ h⟩) rfl (by decide)
      · have no : D_X8_without_19 32 r x 32 (st true n c I W p) = some (Sum.inr 1, st true n (xc c) (rI I 1) W p) := by
          unfold D_X8_without_19 D_X8_without_20
          exact bdk z8T (bdk need0 rfl)
        unfold D_X8_without
        refine bdk z8T ?_
        rw [needRule_k h.T, if_pos cr]
        refine bdk rfl ?_
        show (if x < 0 then _ else _) = _
        by_cases q1 : x < 0
        · rw [if_pos q1]; exact no
        · rw [if_neg q1, if_pos (by omega)]; exact no
      · unfold D_X9_without D_X9_without_28
        refine bdk z9Z (bdk z9T ?_)
        rw [isRule_k h.w.1 (zJ_T h.T) zJ0, if_pos cr]
        refine bdk rfl ?_
        show (if (1 : Int) = 0 then _ else _) = _
        rw [if_neg (by decide)]
        refine bdk within_k ?_
        rw [if_neg cx]
        refine bdk z9T (bdk (fine0 (kind := 1) (by decide) (by decide) zJ0) ?_)
        show (if (0 : Int) ≠ 0 then _ else _) = _
        rw [if_neg (by decide)]
  · refine ag_r (e := 0) (q8r (by decide) fun c I W p h => ?_) (v := 0) (code := 1) (q9r (by decide) fun c I W p h => ⟨zJ I, ?_, AskX_zJ h⟩) rfl (by decide)
    · unfold D_X8_without
      refine bdk z8T ?_
      rw [needRule_k h.T, if_neg cr]
      exact bdk rfl rfl
    · unfold D_X9_without D_X9_without_28
      refine bdk z9Z (bdk z9T ?_)
      rw [isRule_k h.w.1 (zJ_T h.T) zJ0, if_neg cr]
      refine bdk rfl ?_
      show (if (0 : Int) = 0 then _ else _) = _
      rw [if_pos rfl]
theorem FP_at {T : Td} {t y : Nat} : (∀ z, FP T (t : Int) (y : Int) t z = decide (z = y)) ∧ ∀ j, j ≠ t → ∀ z, FP T (t : Int) (y : Int) j z = FS T j z := by
  constructor
  · intro z
    show (if (t : Int) = (t : Int) then decide ((z : Int) = (y : Int)) else _) = _
    rw [if_pos rfl]
    by_cases q : z = y
    · rw [decide_eq_true q, decide_eq_true (by omega)]
    · rw [decide_eq_false q, decide_eq_false (by omega)]
  · intro j hj z
    exact if_neg (by omega)
theorem a_pinned {t y x : Int} : Agree n (D_X8_pinned 32 t y x) (D_X9_pinned 1170 t y x) cmB s := by
  by_cases ct : 0 ≤ t ∧ t < sT s 304
  · by_cases cy : 0 ≤ y ∧ y < 1000
    · by_cases cx : 0 ≤ x ∧ x ≤ 2
      · refine ag_v (x := supS (sT s) (runS (sT s) (-1) (FP (sT s) t y)) x) (s' := s) (fun c I W p h => ?_) (q9v fun c I W p h => ?_)
        · obtain ⟨t, rfl⟩ := Int.eq_ofNat_of_zero_le ct.1
          obtain ⟨y, rfl⟩ := Int.eq_ofNat_of_zero_le cy.1
          have ht : t < nSa (sT s) := by unfold nSa; omega
          obtain ⟨W1, e1, h1, i1, f1⟩ := q_take (g := true) (n := n) (c := c) h
          obtain ⟨W2, e2, h2, i2, f2⟩ := q_pin (g := true) (n := n) (c := c) (t := t) (y := y) (F := FS (sT s)) (F' := FP (sT s) (t : Int) (y : Int)) h1 ht (by omega) (fun j hj _ z hz => f1 j hj z hz) (fun z _ => FP_at.1 z) (fun j hj z _ => FP_at.2 j hj z)
          obtain ⟨I3, W3, e3, h3, i3, -, -, k2⟩ := q_run (g := true) (n := n) (c := c) (sk := -1) (u := 0) h2 f2 (Or.inl rfl)
          obtain ⟨k3, k4⟩ := k2 rfl
          refine ⟨c, I3, W3, p, ?_, h3, i1.t (i2.t i3), cn0⟩
          unfold D_X8_pinned
          refine bdk z8T ?_
          rw [needSample_k h.T, if_pos ct]
          refine bdk rfl (bdk z8T ?_)
          rw [needYear_k, if_pos cy]
          refine bdk rfl ?_
          show (if x < 0 then _ else _) = _
          rw [if_neg (by omega), if_neg (by omega)]
          unfold D_X8_pinned_25
          exact bdk z8T (bdk need1 (bdk z8R10 (bdk z8R9 (bdk (n0T nb221) (bdk e1 (bdk z8R10 (bdk (n0T nb221) (bdk e2 (bdk z8R10 (bdk (n0T nb221) (bdk e3 (bdk z8T (bdk (q_of h3 k3 k4) rfl)))))))))))))
        · obtain ⟨t, rfl⟩ := Int.eq_ofNat_of_zero_le ct.1
          obtain ⟨y, rfl⟩ := Int.eq_ofNat_of_zero_le cy.1
          obtain ⟨I', e, hR⟩ := r_pinned (n := n) (c := c) (W := W) (p := p) (t := t) (y := y) h.w (RX_zJ h)
          refine ⟨I', ?_, AskX_R hR.1 (Fr.trans' PX_zJ hR.2.2.2.1)⟩
          unfold D_X9_pinned
          refine bdk z9Z (bdk z9T ?_)
          rw [isSample_k h.w.1 (zJ_T h.T) zJ0, if_pos ct]
          refine bdk rfl ?_
          show (if (1 : Int) = 0 then _ else _) = _
          rw [if_neg (by decide)]
          refine bdk z9T ?_
          rw [isYear_k zJ0, if_pos (by omega)]
          refine bdk rfl ?_
          show (if (1 : Int) = 0 then _ else _) = _
          rw [if_neg (by decide)]
          refine bdk within_k ?_
          rw [if_pos cx]
          refine bdk z9T (bdk (fine1 zJ0) ?_)
          show (if (1 : Int) ≠ 0 then _ else _) = _
          rw [if_pos (by decide)]
          exact bdk z9T (bdk e (bdk z9T (bdk (r_toldBy h.w hR) rfl)))
      · refine ag_r (e := 1) (q8r (by decide) fun c I W p h => ?_) (v := 0) (code := 2) (q9r (by decide) fun c I W p h => ⟨zJ I, ?_, AskX_zJ h⟩) rfl (by decide)
        · have no : D_X8_pinned_24 32 t y x 32 (st true n c I W p) = some (Sum.inr 1, st true n (xc c) (rI I 1) W p) := by
            unfold D_X8_pinned_24 D_X8_pinned_25
            exact bdk z8T (bdk need0 rfl)
          unfold D_X8_pinned
          refine bdk z8T ?_
          rw [needSample_k h.T, if_pos ct]
          refine bdk rfl (bdk z8T ?_)
          rw [needYear_k, if_pos cy]
          refine bdk rfl ?_
          show (if x < 0 then _ else _) = _
          by_cases q1 : x < 0
          · rw [if_pos q1]; exact no
          · rw [if_neg q1, if_pos (by omega)]; exact no
        · unfold D_X9_pinned D_X9_pinned_36
          refine bdk z9Z (bdk z9T ?_)
          rw [isSample_k h.w.1 (zJ_T h.T) zJ0, if_pos ct]
          refine bdk rfl ?_
          show (if (1 : Int) = 0 then _ else _) = _
          rw [if_neg (by decide)]
          refine bdk z9T ?_
          rw [isYear_k zJ0, if_pos (by omega)]
          refine bdk rfl ?_
          show (if (1 : Int) = 0 then _ else _) = _
          rw [if_neg (by decide)]
          refine bdk within_k ?_
          rw [if_neg cx]
          refine bdk z9T (bdk (fine0 (kind := 1) (by decide) (by decide) zJ0) ?_)
          show (if (0 : Int) ≠ 0 then _ else _) = _
          rw [if_neg (by decide)]
    · refine ag_r (e := 0) (q8r (by decide) fun c I W p h => ?_) (v := 0) (code := 1) (q9r (by decide) fun c I W p h => ⟨zJ I, ?_, AskX_zJ h⟩) rfl (by decide)
      · unfold D_X8_pinned
        refine bdk z8T ?_
        rw [needSample_k h.T, if_pos ct]
        refine bdk rfl (bdk z8T ?_)
        rw [needYear_k, if_neg cy]
        exact bdk rfl rfl
      · unfold D_X9_pinned D_X9_pinned_36
        refine bdk z9Z (bdk z9T ?_)
        rw [isSample_k h.w.1 (zJ_T h.T) zJ0, if_pos ct]
        refine bdk rfl ?_
        show (if (1 : Int) = 0 then _ else _) = _
        rw [if_neg (by decide)]
        refine bdk z9T ?_
        rw [isYear_k zJ0, if_neg (by omega)]
        refine bdk rfl ?_
        show (if (0 : Int) = 0 then _ else _) = _
        rw [if_pos rfl]
  · refine ag_r (e := 0) (q8r (by decide) fun c I W p h => ?_) (v := 0) (code := 1) (q9r (by decide) fun c I W p h => ⟨zJ I, ?_, AskX_zJ h⟩) rfl (by decide)
    · unfold D_X8_pinned
      refine bdk z8T ?_
      rw [needSample_k h.T, if_neg ct]
      exact bdk rfl rfl
    · unfold D_X9_pinned D_X9_pinned_36
      refine bdk z9Z (bdk z9T ?_)
      rw [isSample_k h.w.1 (zJ_T h.T) zJ0, if_neg ct]
      refine bdk rfl ?_
      show (if (0 : Int) = 0 then _ else _) = _
      rw [if_pos rfl]
/-! sets of rules, as bits -/
def bitS (q : Nat → Bool) : Nat → Nat → Int → Int
  | 0, _, a => a
  | d + 1, r, a => bitS q d (r + 1) (mor a (if q r = true then mshl 1 (r : Int) else 0))
theorem bitS_cong {q q' : Nat → Bool} : ∀ (d r : Nat) (a : Int), (∀ k, r ≤ k → k < r + d → q k = q' k) → bitS q d r a = bitS q' d r a := by
  intro d
  induction d with
  | zero => intro r a _; rfl
  | succ d ih =>
    intro r a h
    show bitS q d (r + 1) (mor a (if q r = true then mshl 1 (r : Int) else 0)) = bitS q' d (r + 1) (mor a (if q' r = true then mshl 1 (r : Int) else 0))
    rw [h r (Nat.le_refl r) (by omega)]
    exact ih _ _ (fun k h1 h2 => h k (by omega) (by omega))
def noClash (T : Td) (F : Nat → Nat → Bool) (r : Nat) : Bool := decide (nCs (runS T (r : Int) F).1 = -2)
theorem x8_blame25 {F : Nat → Nat → Bool} : ∀ (d r f : Nat) (a : Int) (c : Nat × Nat × Nat × Nat) (I : Nat → Nat → Int) (W : Nat → Nat → BitVec 64) (p : Nat → Nat), (r : Int) + d = sT s 2 → d < f → IC s I W p → FirstC 221 (nSa (sT s)) F W →
    ∃ I' W', D_X8_blame_25 f 32 a (r : Int) (st true n c I W p) = some (bitS (noClash (sT s) F) d r a, st true n c I' W' p) ∧ IC s I' W' p ∧ HI I I' W W' := by
  intro d
  induction d with
  | zero =>
    intro r f a c I W p hr hf h hF
    obtain ⟨f, rfl⟩ : ∃ g, f = g + 1 := ⟨f - 1, by omega⟩
    refine ⟨I, W, bdk z8R1 (bdk (t5I TB34) ?_), h, HI.r⟩
    rw [h.T.1.2.2.2.2.2, if_pos (by omega)]
    rfl
  | succ d ih =>
    intro r f a c I W p hr hf h hF
    obtain ⟨f, rfl⟩ : ∃ g, f = g + 1 := ⟨f - 1, by omega⟩
    have hn' := h.w.1
    unfold WFn at hn'
    obtain ⟨I1, W1, e1, h1, i1, w1, k1, -⟩ := q_run (g := true) (n := n) (c := c) (sk := (r : Int)) (u := 1) h hF (Or.inr rfl)
    have hF1 : FirstC 221 (nSa (sT s)) F W1 := fun t ht y hy => by
      have := m12 h
      rw [w1 _ (by unfold PW; omega)]; exact hF t ht y hy
    obtain ⟨I2, W2, e2, h2, i2⟩ := ih (r + 1) f (mor a (if noClash (sT s) F r = true then mshl 1 (r : Int) else 0)) c I1 W1 p (by omega) (by omega) h1 hF1
    refine ⟨I2, W2, bdk z8R1 (bdk (t5I TB34) ?_), h2, i1.t i2⟩
    rw [h.T.1.2.2.2.2.2, if_neg (by omega)]
    refine bdk z8R10 (bdk (n0T nb221) (bdk e1 (bdk z8R10 (bdk (n0T nb221) (bdk q_clash ?_)))))
    unfold D_X8_blame_63
    rw [mw_n (by omega)]
    show (if (if I1 221 10 = -2 then (0 : Int) else 1) = 0 then _ else _) = _
    by_cases q : I1 221 10 = -2
    · have : noClash (sT s) F r = true := decide_eq_true (k1.1 q)
      rw [this, if_pos rfl] at e2
      rw [if_pos q, if_pos rfl]
      show D_X8_blame_25 f 32 (mor a (mshl 1 (r : Int))) ((r + 1 : Nat) : Int) (st true n c I1 W1 p) = some (bitS (noClash (sT s) F) d (r + 1) (mor a (if noClash (sT s) F r = true then mshl 1 (r : Int) else 0)), _)
      rw [this, if_pos rfl]
      exact e2
    · have : noClash (sT s) F r = false := decide_eq_false (fun w => q (k1.2 w))
      rw [this, if_neg (by decide)] at e2
      rw [if_neg q, if_neg (by decide)]
      show D_X8_blame_25 f 32 (mor a 0) ((r + 1 : Nat) : Int) (st true n c I1 W1 p) = some (bitS (noClash (sT s) F) d (r + 1) (mor a (if noClash (sT s) F r = true then mshl 1 (r : Int) else 0)), _)
      rw [this, if_neg (by decide)]
      exact e2
theorem x9_blame22 {T : Td} (hw : WF T) : ∀ (d r f : Nat) (a : Int) (c : Nat × Nat × Nat × Nat) (I : Nat → Nat → Int) (W : Nat → Nat → BitVec 64) (p : Nat → Nat), (r : Int) + d = T 2 → d < f → RX T I →
    ∃ I', D_X9_blame_22 f 1170 a (r : Int) (st true n c I W p) = some (bitS (noClash T (FS T)) d r a, st true n c I' W p) ∧ RX T I' ∧ Fr PX I I' := by
  have hn' := hw.1
  unfold WFn at hn'
  intro d
  induction d with
  | zero =>
    intro r f a c I W p hr hf h
    obtain ⟨f, rfl⟩ : ∃ g, f = g + 1 := ⟨f - 1, by omega⟩
    refine ⟨I, bdk z9R2 (bdk (z9L2 (by decide) (by decide)) ?_), h, Fr.rfl'⟩
    rw [show (2 : Int).toNat = 2 from rfl, h.1.1 2 (by decide), if_pos (by omega)]
    rfl
  | succ d ih =>
    intro r f a c I W p hr hf h
    obtain ⟨f, rfl⟩ : ∃ g, f = g + 1 := ⟨f - 1, by omega⟩
    obtain ⟨I1, e1, hR⟩ := r_without (n := n) (c := c) (W := W) (p := p) (r := r) hw h
    obtain ⟨I2, e2, h2, f2⟩ := ih (r + 1) f (mor a (if noClash T (FS T) r = true then mshl 1 (r : Int) else 0)) c I1 W p (by omega) (by omega) hR.1
    refine ⟨I2, bdk z9R2 (bdk (z9L2 (by decide) (by decide)) ?_), h2, Fr.trans' hR.2.2.2.1 f2⟩
    rw [show (2 : Int).toNat = 2 from rfl, h.1.1 2 (by decide), if_neg (by omega)]
    refine bdk z9T (bdk e1 (bdk z9I ?_))
    rw [hR.2.2.2.2.2]
    unfold D_X9_blame_52
    rw [mw_n (by omega)]
    show (if (if nCs (runS T (r : Int) (FS T)).1 = -2 then (0 : Int) else 1) = 0 then _ else _) = _
    by_cases q : nCs (runS T (r : Int) (FS T)).1 = -2
    · have : noClash T (FS T) r = true := decide_eq_true q
      rw [this, if_pos rfl] at e2
      rw [if_pos q, if_pos rfl]
      show D_X9_blame_22 f 1170 (mor a (mshl 1 (r : Int))) ((r + 1 : Nat) : Int) (st true n c I1 W p) = some (bitS (noClash T (FS T)) d (r + 1) (mor a (if noClash T (FS T) r = true then mshl 1 (r : Int) else 0)), _)
      rw [this, if_pos rfl]
      exact e2
    · have : noClash T (FS T) r = false := decide_eq_false q
      rw [this, if_neg (by decide)] at e2
      rw [if_neg q, if_neg (by decide)]
      show D_X9_blame_22 f 1170 (mor a 0) ((r + 1 : Nat) : Int) (st true n c I1 W p) = some (bitS (noClash T (FS T)) d (r + 1) (mor a (if noClash T (FS T) r = true then mshl 1 (r : Int) else 0)), _)
      rw [this, if_neg (by decide)]
      exact e2
def blameS (T : Td) : Int := if nCs (runS T (-1) (FS T)).1 = -2 then 0 else bitS (noClash T (FS T)) (nRu T) 0 0
theorem laysX2 {c : Nat × Nat × Nat × Nat} {I : Nat → Nat → Int} {W : Nat → Nat → BitVec 64} {p : Nat → Nat} (h : IM s I) : ∃ I', D_X9_lays 1170 (st true n c (zJ I) W p) = some (st true n c I' W p) ∧ RX (sT s) I' ∧ Fr PX I I' ∧ I' 1170 24 = (if nCs (runS (sT s) (-1) (FS (sT s))).1 = -2 then 0 else 1) ∧ ∀ t, t < nSa (sT s) → ∀ y, y < 1000 → I' (1193 + t) y = bI (lft (sT s) t y) := by
  obtain ⟨I', e, hA, hX, h0, hS⟩ := laysX (n := n) (c := c) (W := W) (p := p) h
  have hL := hA.2.2.1.1
  rw [FP_plain] at hL
  exact ⟨I', e, ⟨hX.1, hX.2.1, hX.2.2.2.1, hX.2.2.2.2, h0⟩, hX.2.2.1, hL.2.1.2.2.1, hS⟩
theorem a_blame : Agree n (p8 (D_X8_blame 32)) (D_X9_blame 1170) (fun _ => 0) s := by
  refine ag_v (x := blameS (sT s)) (s' := s) (fun c I W p h => ?_) (q9v fun c I W p h => ?_)
  · have h10 := h.N.2.1.2.1.2.2.2.2.1
    have hn' := h.w.1
    unfold WFn at hn'
    by_cases q : nCs (runS (sT s) (-1) (FS (sT s))).1 = -2
    · refine ⟨c, I, W, p, ?_, h, HI.r, cn0⟩
      refine bdk (x := (blameS (sT s), st true n c I W p)) ?_ rfl
      unfold D_X8_blame D_X8_blame_71 blameS
      refine bdk z8R9 (bdk (n0T nb188) (bdk (x0_hasClash nb188) ?_))
      rw [h10, if_pos q, if_pos rfl, if_pos q]
    · obtain ⟨W1, e1, h1, i1, f1⟩ := q_take (g := true) (n := n) (c := c) h
      obtain ⟨I2, W2, e2, h2, i2⟩ := x8_blame25 (n := n) (nRu (sT s)) 0 mFU 0 c I W1 p (by unfold nRu; omega) (by unfold nRu mFU; omega) h1 f1
      refine ⟨c, I2, W2, p, ?_, h2, i1.t i2, cn0⟩
      refine bdk (x := (blameS (sT s), st true n c I2 W2 p)) ?_ rfl
      unfold D_X8_blame D_X8_blame_71 blameS
      refine bdk z8R9 (bdk (n0T nb188) (bdk (x0_hasClash nb188) ?_))
      rw [h10, if_neg q, if_neg (by decide), if_neg q]
      exact bdk z8R10 (bdk z8R9 (bdk (n0T nb221) (bdk e1 (bdk e2 rfl))))
  · obtain ⟨I1, e1, h1, f1, k1, -⟩ := laysX2 (n := n) (c := c) (W := W) (p := p) h
    have hn' := h.w.1
    unfold WFn at hn'
    by_cases q : nCs (runS (sT s) (-1) (FS (sT s))).1 = -2
    · refine ⟨I1, ?_, AskX_R h1 f1⟩
      unfold D_X9_blame blameS
      refine bdk z9Z (bdk z9T (bdk e1 (bdk z9I ?_)))
      rw [k1, if_pos q, if_neg (by decide), if_pos q]
    · obtain ⟨I2, e2, h2, f2⟩ := x9_blame22 (n := n) h.w (nRu (sT s)) 0 mFU 0 c I1 W p (by unfold nRu; omega) (by unfold nRu mFU; omega) h1
      refine ⟨I2, ?_, AskX_R h2 (Fr.trans' f1 f2)⟩
      unfold D_X9_blame blameS
      refine bdk z9Z (bdk z9T (bdk e1 (bdk z9I ?_)))
      rw [k1, if_neg q, if_pos (by decide), if_neg q]
      exact bdk e2 rfl
end WI
