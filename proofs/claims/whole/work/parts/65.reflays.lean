/-! THE PURE PART: the reference lays the spans -/
def FoundM (T : Td) (I : Nat → Nat → Int) : Prop := ∀ s, s < nSa T → ∀ y, y < 1000 → I (1206 + s) y = bI (FS T s y)
def FirstM (m : Nat) (F : Nat → Nat → Bool) (I : Nat → Nat → Int) : Prop := ∀ s, s < m → ∀ y, y < 1000 → I (1180 + s) y = bI (F s y)
def PL (b k : Nat) : Prop := (1180 ≤ b ∧ b ≤ 1191) ∨ (1193 ≤ b ∧ b ≤ 1204) ∨ (1206 ≤ b ∧ b ≤ 1217) ∨ b = 1218 ∨ b = 1219 ∨ (b = 1170 ∧ (k = 16 ∨ (20 ≤ k ∧ k ≤ 24) ∨ k = 28))
theorem PL_T : ∀ b k, PL b k → b ≠ 1172 ∧ b ≠ 1175 ∧ b ≠ 1176 ∧ b ≠ 1177 ∧ b ≠ 1178 ∧ ¬ (b = 1170 ∧ 6 ≤ k ∧ k ≤ 8) := fun b k h => by unfold PL at h; omega
theorem PN_L : ∀ b k, PN b k → PL b k := fun b k h => by unfold PN at h; unfold PL; omega
/-- the first spans, one sample perhaps pinned -/
def FP (T : Td) (ps py : Int) : Nat → Nat → Bool := fun s y => if (s : Int) = ps then decide ((y : Int) = py) else FS T s y
def LaidM (T : Td) (I : Nat → Nat → Int) : Prop := RNI T (runS T (-1) (FS T)).1 I ∧ I 1170 20 = ((runS T (-1) (FS T)).2 : Nat) ∧ FirstM (nSa T) (FS T) I
def RefF (T : Td) (I : Nat → Nat → Int) : Prop := (I 1170 16 = 0 ∨ (I 1170 16 = 1 ∧ FoundM T I)) ∧ (I 1170 28 = 0 ∨ I 1170 28 = 1) ∧ (I 1170 16 = 1 → I 1170 28 = 1 → LaidM T I)
section RL
variable {n : Nat} {c : Nat × Nat × Nat × Nat} {I : Nat → Nat → Int} {W : Nat → Nat → BitVec 64} {p : Nat → Nat} {T : Td} {N : NS}
theorem x9_58 (hw : WF T) : ∀ (d s f : Nat) (I1 : Nat → Nat → Int), s + d = nSa T → d < f → RefT T I1 → Fr PL I I1 → I1 1170 16 = 0 → (∀ t, t < s → ∀ y, y < 1000 → I1 (1206 + t) y = bI (FS T t y)) →
    ∃ I', D_X9_lays_58 f 1170 (s : Nat) (st true n c I1 W p) = some (st true n c I' W p) ∧ Fr PL I I' ∧ Fr (fun b _ => 1206 ≤ b ∧ b ≤ 1217) I1 I' ∧ FoundM T I' := by
  have hn := hw.1
  unfold WFn at hn
  intro d
  induction d with
  | zero =>
    intro s f I1 hs hf hT hF h0 hr
    obtain ⟨f, rfl⟩ : ∃ g, f = g + 1 := ⟨f - 1, by omega⟩
    refine ⟨I1, bdk z9I ?_, hF, Fr.rfl', fun t ht => hr t (by omega)⟩
    rw [hT.2.2.1]
    exact if_pos (by unfold nSa at hs; omega)
  | succ d ih =>
    intro s f I1 hs hf hT hF h0 hr
    obtain ⟨f, rfl⟩ : ∃ g, f = g + 1 := ⟨f - 1, by omega⟩
    have hs2 : (s : Int) < T 304 := by unfold nSa at hs; omega
    obtain ⟨I2, e2, f2, v2⟩ := x9_findsFirst (n := n) (c := c) (W := W) (p := p) hw hT hs2
    have f2' : Fr PL I1 I2 := Fr.mono (fun b k q => by unfold PL; omega) f2
    obtain ⟨I3, e3, g1, g2, g3⟩ := ih (s + 1) f I2 (by omega) (by omega) (hT.fr f2' PL_T) (Fr.trans' hF f2') (by rw [f2 _ _ (by omega)]; exact h0) (fun t ht y hy => by
      by_cases q : t = s
      · subst q
        exact v2 y hy
      · rw [f2 _ _ (by omega)]
        exact hr t (by omega) y hy)
    refine ⟨I3, bdk z9I ?_, g1, Fr.trans' (Fr.mono (fun b k q => by omega) f2) g2, g3⟩
    rw [hT.2.2.1, if_neg (by omega)]
    refine bdk z9I ?_
    rw [if_neg (by omega)]
    refine bdk z9T (bdk e2 ?_)
    rw [mw_n (by omega)]
    exact e3
theorem x9_58done (hw : WF T) (hT : RefT T I) (h16 : I 1170 16 = 1) : D_X9_lays_58 mFU 1170 0 (st true n c I W p) = some (st true n c I W p) := by
  have hn := hw.1
  unfold WFn at hn
  obtain ⟨f, hf⟩ : ∃ g, mFU = g + 1 := ⟨999999, rfl⟩
  rw [hf]
  refine bdk z9I ?_
  rw [hT.2.2.1]
  by_cases q : T 304 ≤ 0
  · exact if_pos q
  · rw [if_neg q]
    refine bdk z9I ?_
    rw [h16]
    exact if_pos (by decide)
theorem x9_laysFirst {s : Nat} {ps py : Int} {F : Nat → Bool} (hs : s < 12) (hF : ∀ y, y < 1000 → I (1206 + s) y = bI (F y)) (h17 : I 1170 17 = ps) (h18 : I 1170 18 = py) :
    ∃ I', D_X9_laysFirst 1170 (s : Int) (st true n c I W p) = some (st true n c I' W p) ∧ Fr (fun b _ => b = 1180 + s) I I' ∧ ∀ y, y < 1000 → I' (1180 + s) y = bI (if (s : Int) = ps then decide ((y : Int) = py) else F y) := by
  have L : ∀ (d y f : Nat) (I1 : Nat → Nat → Int), y + d = 1000 → d < f → Fr (fun b _ => b = 1180 + s) I I1 → (∀ z, z < y → I1 (1180 + s) z = bI (if (s : Int) = ps then decide ((z : Int) = py) else F z)) →
      ∃ I', D_X9_laysFirst_2 f 1170 (s : Int) (y : Nat) (st true n c I1 W p) = some (st true n c I' W p) ∧ Fr (fun b _ => b = 1180 + s) I I' ∧ ∀ y, y < 1000 → I' (1180 + s) y = bI (if (s : Int) = ps then decide ((y : Int) = py) else F y) := by
    intro d
    induction d with
    | zero =>
      intro y f I1 hy hf h1 h2
      obtain ⟨f, rfl⟩ : ∃ g, f = g + 1 := ⟨f - 1, by omega⟩
      have e : y = 1000 := by omega
      subst e
      exact ⟨I1, if_pos (by omega), h1, h2⟩
    | succ d ih =>
      intro y f I1 hy hf h1 h2
      obtain ⟨f, rfl⟩ : ∃ g, f = g + 1 := ⟨f - 1, by omega⟩
      obtain ⟨I', e, g1, g2⟩ := ih (y + 1) f (u2 I1 (1180 + s) y (bI (if (s : Int) = ps then decide ((y : Int) = py) else F y))) (by omega) (by omega) (fun b k q => by
        rw [u2_def, if_neg (fun w => q w.1)]
        exact h1 b k q) (fun z hz => by
        rw [u2_def]
        by_cases q : z = y
        · subst q
          exact if_pos ⟨rfl, rfl⟩
        · rw [if_neg (fun w => q w.2)]
          exact h2 z (by omega))
      refine ⟨I', ?_, g1, g2⟩
      show (if (1000 : Int) ≤ (y : Nat) then _ else _) = _
      rw [if_neg (by omega)]
      refine bdk z9R13 (bdk (z9A13 (by omega) (by omega)) (bdk z9I ?_))
      rw [h1 1170 17 (by omega), h17]
      unfold D_X9_laysFirst_48
      rw [mw_n (by omega)]
      by_cases q : (s : Int) = ps
      · rw [if_neg (by omega)]
        rw [if_pos q] at e
        refine bdk z9I ?_
        rw [h1 1170 18 (by omega), h18]
        by_cases q2 : (y : Int) = py
        · rw [if_neg (by omega)]
          rw [decide_eq_true q2] at e
          exact bdk (z9S13 hs (Or.inr rfl) (by omega) (by omega)) e
        · rw [if_pos q2]
          rw [decide_eq_false q2] at e
          exact bdk (z9S13 hs (Or.inl rfl) (by omega) (by omega)) e
      · rw [if_pos q]
        rw [if_neg q] at e
        refine bdk z9R15 (bdk (z9A15 (by omega) (by omega)) (bdk (z9L15 hs (by omega) (by omega)) ?_))
        rw [toN, toN, h1 _ _ (by omega), hF y (by omega)]
        exact bdk (z9S13 hs (bI_01 _) (by omega) (by omega)) e
  obtain ⟨I', e, g1, g2⟩ := L 1000 0 mFU I rfl (by decide) Fr.rfl' (fun z hz => by omega)
  exact ⟨I', bdk e rfl, g1, g2⟩
theorem x9_106 {s : Nat} {F : Nat → Bool} (hs : s < 12) (hF : ∀ y, y < 1000 → I (1180 + s) y = bI (F y)) : ∀ (d y f : Nat) (I1 : Nat → Nat → Int), y + d = 1000 → d < f → Fr (fun b _ => b = 1193 + s) I I1 → (∀ z, z < y → I1 (1193 + s) z = bI (F z)) →
      ∃ I', D_X9_lays_106 f 1170 (s : Int) (y : Nat) (st true n c I1 W p) = some (st true n c I' W p) ∧ Fr (fun b _ => b = 1193 + s) I I' ∧ ∀ y, y < 1000 → I' (1193 + s) y = bI (F y) := by
  intro d
  induction d with
  | zero =>
    intro y f I1 hy hf h1 h2
    obtain ⟨f, rfl⟩ : ∃ g, f = g + 1 := ⟨f - 1, by omega⟩
    have e : y = 1000 := by omega
    subst e
    exact ⟨I1, if_pos (by omega), h1, h2⟩
  | succ d ih =>
    intro y f I1 hy hf h1 h2
    obtain ⟨f, rfl⟩ : ∃ g, f = g + 1 := ⟨f - 1, by omega⟩
    obtain ⟨I', e, g1, g2⟩ := ih (y + 1) f (u2 I1 (1193 + s) y (bI (F y))) (by omega) (by omega) (fun b k q => by
      rw [u2_def, if_neg (fun w => q w.1)]
      exact h1 b k q) (fun z hz => by
      rw [u2_def]
      by_cases q : z = y
      · subst q
        exact if_pos ⟨rfl, rfl⟩
      · rw [if_neg (fun w => q w.2)]
        exact h2 z (by omega))
    refine ⟨I', ?_, g1, g2⟩
    show (if (1000 : Int) ≤ (y : Nat) then _ else _) = _
    rw [if_neg (by omega)]
    refine bdk z9R14 (bdk (z9A14 (by omega) (by omega)) (bdk z9R13 (bdk (z9A13 (by omega) (by omega)) (bdk (z9L13 hs (by omega) (by omega)) ?_))))
    rw [toN, toN, h1 _ _ (by omega), hF y (by omega), mw_n (by omega)]
    exact bdk (z9S14 hs (bI_01 _) (by omega) (by omega)) e
/-- the state of laying, at a sample -/
def LayAt (T : Td) (F : Nat → Nat → Bool) (s : Nat) (I : Nat → Nat → Int) : Prop := FirstM s F I ∧ (∃ g : Nat → Int, ∃ h : Int, NarM s (F, g, crA F s, csA F s, h) I)
theorem x9_91 {ps py : Int} (hw : WF T) : ∀ (d s f : Nat) (I1 : Nat → Nat → Int), s + d = nSa T → d < f → RefT T I1 → Fr PL I I1 → FoundM T I1 → I1 1170 17 = ps → I1 1170 18 = py → LayAt T (FP T ps py) s I1 →
    ∃ I', D_X9_lays_91 f 1170 (s : Nat) (st true n c I1 W p) = some (st true n c I' W p) ∧ Fr PL I I' ∧ FoundM T I' ∧ RefT T I' ∧ LayAt T (FP T ps py) (nSa T) I' ∧ I' 1170 16 = I1 1170 16 ∧ I' 1170 28 = I1 1170 28 ∧ I' 1170 20 = I1 1170 20 := by
  have hn := hw.1
  unfold WFn at hn
  have hm : nSa T ≤ 12 := by unfold nSa; omega
  intro d
  induction d with
  | zero =>
    intro s f I1 hs hf hT hF hfd h17 h18 hL
    obtain ⟨f, rfl⟩ : ∃ g, f = g + 1 := ⟨f - 1, by omega⟩
    have e : s = nSa T := by omega
    subst e
    refine ⟨I1, bdk z9I ?_, hF, hfd, hT, hL, rfl, rfl, rfl⟩
    rw [hT.2.2.1]
    exact if_pos (by unfold nSa; omega)
  | succ d ih =>
    intro s f I1 hs hf hT hF hfd h17 h18 hL
    obtain ⟨f, rfl⟩ : ∃ g, f = g + 1 := ⟨f - 1, by omega⟩
    have hs12 : s < 12 := by omega
    have hs2 : (s : Int) < T 304 := by unfold nSa at hs; omega
    obtain ⟨l1, g, hh, l2⟩ := hL
    obtain ⟨I2, e2, f2, v2⟩ := x9_laysFirst (n := n) (c := c) (W := W) (p := p) (F := FS T s) hs12 (fun y hy => hfd s (by omega) y hy) h17 h18
    obtain ⟨I3, e3, f3, v3⟩ := x9_106 (n := n) (c := c) (W := W) (p := p) (I := I2) (F := FP T ps py s) hs12 v2 1000 0 mFU I2 rfl (by decide) Fr.rfl' (fun z hz => by omega)
    have N3 : NarM (s + 1) (FP T ps py, g, crA (FP T ps py) s, csA (FP T ps py) s, hh) I3 := by
      obtain ⟨a1, a2, a3, a4, a5⟩ := l2
      refine ⟨fun t ht y hy => ?_, fun r hr => ?_, ?_, fun q => ?_, ?_⟩
      · by_cases q : t = s
        · subst q
          exact v3 y hy
        · rw [f3 _ _ (by omega), f2 _ _ (by omega)]
          exact a1 t (by omega) y hy
      · rw [f3 _ _ (by omega), f2 _ _ (by omega)]
        exact a2 r hr
      · rw [f3 _ _ (by omega), f2 _ _ (by omega)]
        exact a3
      · rw [f3 _ _ (by omega), f2 _ _ (by omega), f3 _ _ (by omega), f2 _ _ (by omega)]
        exact a4 q
      · rw [f3 _ _ (by omega), f2 _ _ (by omega)]
        exact a5
    obtain ⟨I4, e4, N4, f4⟩ := x9_meets (n := n) (c := c) (W := W) (p := p) (r := -1) (s := s) (cr := crA (FP T ps py) (s + 1)) (cs := csA (FP T ps py) (s + 1)) (by omega : s + 1 ≤ 12) (by omega) N3 (crA_s _ s) rfl
    have fr24 : Fr PL I1 I4 := Fr.trans' (Fr.mono (fun b k q => by unfold PL; omega) f2) (Fr.trans' (Fr.mono (fun b k q => by unfold PL; omega) f3) (Fr.mono PN_L f4))
    have keep : ∀ b k, ¬ (b = 1180 + s) → ¬ (b = 1193 + s) → ¬ PN b k → I4 b k = I1 b k := fun b k q1 q2 q3 => by rw [f4 b k q3, f3 b k q2, f2 b k q1]
    obtain ⟨I5, e5, r1, r2, r3, r4, r5, r6, r7⟩ := ih (s + 1) f I4 (by omega) (by omega) (hT.fr fr24 PL_T) (Fr.trans' hF fr24) (fun t ht y hy => by rw [keep _ _ (by omega) (by omega) (by unfold PN; omega)]; exact hfd t ht y hy)
      (by rw [keep _ _ (by omega) (by omega) (by unfold PN; omega)]; exact h17) (by rw [keep _ _ (by omega) (by omega) (by unfold PN; omega)]; exact h18) ⟨fun t ht y hy => by
        by_cases q : t = s
        · subst q
          rw [f4 _ _ (by unfold PN; omega), f3 _ _ (by omega)]
          exact v2 y hy
        · rw [keep _ _ (by omega) (by omega) (by unfold PN; omega)]
          exact l1 t (by omega) y hy, g, hh, N4⟩
    refine ⟨I5, bdk z9I ?_, r1, r2, r3, r4, ?_, ?_, ?_⟩
    · rw [hT.2.2.1, if_neg (by omega)]
      refine bdk z9T (bdk e2 (bdk e3 (bdk z9T (bdk e4 ?_))))
      rw [mw_n (by omega)]
      exact e5
    · rw [r5, keep _ _ (by omega) (by omega) (by unfold PN; omega)]
    · rw [r6, keep _ _ (by omega) (by omega) (by unfold PN; omega)]
    · rw [r7, keep _ _ (by omega) (by omega) (by unfold PN; omega)]
theorem x9_149 : ∀ (d r f : Nat) (I1 : Nat → Nat → Int), r + d = 24 → d < f → Fr (fun b _ => b = 1218) I I1 → (∀ q, q < r → I1 1218 q = 0) →
    ∃ I', D_X9_lays_149 f 1170 (r : Nat) (st true n c I1 W p) = some (st true n c I' W p) ∧ Fr (fun b _ => b = 1218) I I' ∧ ∀ q, q < 24 → I' 1218 q = 0 := by
  intro d
  induction d with
  | zero =>
    intro r f I1 hr hf h1 h2
    obtain ⟨f, rfl⟩ : ∃ g, f = g + 1 := ⟨f - 1, by omega⟩
    have e : r = 24 := by omega
    subst e
    exact ⟨I1, if_pos (by omega), h1, h2⟩
  | succ d ih =>
    intro r f I1 hr hf h1 h2
    obtain ⟨f, rfl⟩ : ∃ g, f = g + 1 := ⟨f - 1, by omega⟩
    obtain ⟨I', e, g1, g2⟩ := ih (r + 1) f (u2 I1 1218 r 0) (by omega) (by omega) (fun b k q => by
      rw [u2_def, if_neg (fun w => q w.1)]
      exact h1 b k q) (fun z hz => by
      rw [u2_def]
      by_cases q : z = r
      · subst q
        exact if_pos ⟨rfl, rfl⟩
      · rw [if_neg (fun w => q w.2)]
        exact h2 z (by omega))
    refine ⟨I', ?_, g1, g2⟩
    show (if (24 : Int) ≤ (r : Nat) then _ else _) = _
    rw [if_neg (by omega)]
    refine bdk z9R25 (bdk (z9S25 (by omega) (by omega)) ?_)
    rw [mw_n (by omega)]
    exact e
theorem x9_185 {lo : Int} (hw : WF T) : ∀ (d r f : Nat) (I : Nat → Nat → Int) (N : NS), (r : Int) + d = T 2 → d < f → RNI T N I → I 1170 19 = lo →
    ∃ I', D_X9_lays_185 f 1170 (r : Nat) (st true n c I W p) = some (st true n c I' W p) ∧ RNI T (rndN T lo d r N) I' ∧ Fr PN I I' := by
  have hn := hw.1
  unfold WFn at hn
  intro d
  induction d with
  | zero =>
    intro r f I N hr hf hN h19
    obtain ⟨f, rfl⟩ : ∃ g, f = g + 1 := ⟨f - 1, by omega⟩
    refine ⟨I, bdk z9R2 (bdk (z9L2 (by omega) (by omega)) ?_), hN, Fr.rfl'⟩
    rw [show I 1172 (2 : Int).toNat = T 2 from hN.1.1 2 (by decide)]
    exact if_pos (by omega)
  | succ d ih =>
    intro r f I N hr hf hN h19
    obtain ⟨f, rfl⟩ : ∃ g, f = g + 1 := ⟨f - 1, by omega⟩
    have head : ∀ {R : Option mS}, (if (r : Int) = lo then D_X9_lays_208 (D_X9_lays_185 f) 1170 (r : Int) (st true n c I W p) else (tgO (st true n c I W p) 1170 8).bind fun _ => (D_X9_applies 1170 (r : Int) (st true n c I W p)).bind fun r4 => D_X9_lays_208 (D_X9_lays_185 f) 1170 (r : Int) r4) = R → D_X9_lays_185 (f + 1) 1170 (r : Nat) (st true n c I W p) = R := by
      intro R h
      refine bdk z9R2 (bdk (z9L2 (by omega) (by omega)) ?_)
      rw [show I 1172 (2 : Int).toNat = T 2 from hN.1.1 2 (by decide), if_neg (by omega)]
      refine bdk z9I ?_
      rw [h19]
      exact h
    by_cases q : (r : Int) = lo
    · obtain ⟨I', e, g1, g2⟩ := ih (r + 1) f I N (by omega) (by omega) hN h19
      refine ⟨I', head ?_, ?_, g2⟩
      · rw [if_pos q]
        unfold D_X9_lays_208
        rw [mw_n (by omega)]
        exact e
      · show RNI T (rndN T lo d (r + 1) (if (r : Int) = lo then N else doL r (opsR T r) N)) I'
        rw [if_pos q]
        exact g1
    · obtain ⟨I1, e1, w1, f1⟩ := x9_applies (n := n) (c := c) (W := W) (p := p) (r := r) hw (by omega) hN
      obtain ⟨I', e, g1, g2⟩ := ih (r + 1) f I1 _ (by omega) (by omega) w1 (by rw [f1 _ _ (by unfold PN; omega)]; exact h19)
      refine ⟨I', head ?_, ?_, Fr.trans' f1 g2⟩
      · rw [if_neg q]
        refine bdk z9T (bdk e1 ?_)
        unfold D_X9_lays_208
        rw [mw_n (by omega)]
        exact e
      · show RNI T (rndN T lo d (r + 1) (if (r : Int) = lo then N else doL r (opsR T r) N)) I'
        rw [if_neg q]
        exact g1
theorem RNI_ch0 (h : RNI T N I) : RNI T (ch0 N) (u2 I 1170 23 0) := by
  obtain ⟨h1, ⟨a1, a2, a3, a4, a5⟩, ⟨v1, v2, v3, v4⟩⟩ := h
  have b0 := v1 0
  refine ⟨h1.fr (P := fun b k => b = 1170 ∧ k = 23) (fun b j q => by rw [u2_def, if_neg (by omega)]) (fun b k q => by omega), ⟨fun s hs y hy => ?_, fun r hr => ?_, ?_, fun q => ?_, ?_⟩, ⟨v1, Int.le_refl 0, ?_, v4⟩⟩
  · rw [u2_def, if_neg (by omega)]; exact a1 s hs y hy
  · rw [u2_def, if_neg (by omega)]; exact a2 r hr
  · rw [u2_def, if_neg (by omega)]; exact a3
  · rw [u2_def, if_neg (by omega), u2_def, if_neg (by omega)]; exact a4 q
  · rw [u2_def, if_pos ⟨rfl, rfl⟩]; rfl
  · have e9 : tot (nSa T) (ch0 N) = tot (nSa T) N := rfl
    show (0 : Int) + _ ≤ _
    rw [e9]
    omega
theorem x9_168 {lo : Int} (hw : WF T) : ∀ (fl f k : Nat) (I : Nat → Nat → Int) (N : NS), tot (nSa T) N < fl → fl ≤ f → (k : Int) + fl ≤ 20000 → RNI T (ch0 N) (u2 I 1170 23 0) → I 1170 19 = lo → I 1170 20 = k →
    ∃ I', D_X9_lays_168 f 1170 (st true n c I W p) = some (st true n c I' W p) ∧ RNI T (runN T lo fl k N).1 I' ∧ I' 1170 20 = ((runN T lo fl k N).2 : Nat) ∧ Fr (fun b k => PN b k ∨ (b = 1170 ∧ k = 20)) I I' := by
  have hn := hw.1
  unfold WFn at hn
  intro fl
  induction fl with
  | zero => intro f k I N h; omega
  | succ fl ih =>
    intro f k I N ht hf hk hN h19 h20
    obtain ⟨f, rfl⟩ : ∃ g, f = g + 1 := ⟨f - 1, by omega⟩
    have N0 : RNI T (ch0 N) (u2 (u2 I 1170 23 0) 1170 20 ((k + 1 : Nat) : Int)) := by
      obtain ⟨h1, ⟨a1, a2, a3, a4, a5⟩, v⟩ := hN
      have ue : ∀ b j, ¬ (b = 1170 ∧ j = 20) → u2 (u2 I 1170 23 0) 1170 20 ((k + 1 : Nat) : Int) b j = u2 I 1170 23 0 b j := fun b j q => by rw [u2_def, if_neg q]
      refine ⟨h1.fr (P := fun b k => b = 1170 ∧ k = 20) (fun b j q => ue b j q) (fun b k q => by omega), ⟨fun s hs y hy => ?_, fun r hr => ?_, ?_, fun q => ?_, ?_⟩, v⟩
      · rw [ue _ _ (by omega)]; exact a1 s hs y hy
      · rw [ue _ _ (by omega)]; exact a2 r hr
      · rw [ue _ _ (by omega)]; exact a3
      · rw [ue _ _ (by omega), ue _ _ (by omega)]; exact a4 q
      · rw [ue _ _ (by omega)]; exact a5
    obtain ⟨I2, e2, N2, f2⟩ := x9_185 (n := n) (c := c) (W := W) (p := p) (lo := lo) hw (nRu T) 0 mFU _ _ (by unfold nRu; omega) (by unfold nRu mFU; omega) N0 (by rw [u2_def, if_neg (by omega), u2_def, if_neg (by omega)]; exact h19)
    have et := rnd_tot (T := T) (skip := lo) hw (nRu T) 0 (ch0 N) (by unfold nRu; omega)
    have e9 : tot (nSa T) (ch0 N) = tot (nSa T) N := rfl
    have e8 : nCh (ch0 N) = 0 := rfl
    rw [e9, e8] at et
    have fr2 : Fr (fun b k => PN b k ∨ (b = 1170 ∧ k = 20)) I I2 := fun b k q => by
      have q1 : ¬ PN b k := fun w => q (Or.inl w)
      have q2 : ¬ (b = 1170 ∧ k = 20) := fun w => q (Or.inr w)
      rw [f2 b k q1, u2_def, if_neg q2, u2_def, if_neg (by unfold PN at q1; omega)]
    have h20' : I2 1170 20 = ((k + 1 : Nat) : Int) := by rw [f2 _ _ (by unfold PN; omega), u2_def, if_pos ⟨rfl, rfl⟩]
    have head : ∀ {R : Option mS}, (if 0 < I2 1170 23 then D_X9_lays_168 f 1170 (st true n c I2 W p) else some (st true n c I2 W p)) = R → D_X9_lays_168 (f + 1) 1170 (st true n c I W p) = R := by
      intro R h
      refine bdk z9P (bdk z9I (bdk z9P ?_))
      rw [u2_def, if_neg (by omega), h20, mw_n (by omega)]
      exact bdk e2 (bdk z9I h)
    have h23 : I2 1170 23 = nCh (rndN T lo (nRu T) 0 (ch0 N)) := N2.2.1.2.2.2.2
    by_cases q : nCh (rndN T lo (nRu T) 0 (ch0 N)) = 0
    · have er : runN T lo (fl + 1) k N = (rndN T lo (nRu T) 0 (ch0 N), k + 1) := if_pos q
      rw [er]
      refine ⟨I2, head ?_, N2, h20', fr2⟩
      rw [if_neg (by omega)]
    · have er : runN T lo (fl + 1) k N = runN T lo fl (k + 1) (rndN T lo (nRu T) 0 (ch0 N)) := if_neg q
      rw [er]
      have ch := N2.2.2.2.1
      obtain ⟨I3, e3, N3, g3, f3⟩ := ih f (k + 1) I2 _ (by omega) (by omega) (by omega) (RNI_ch0 N2) (by rw [fr2 _ _ (by unfold PN; omega)]; exact h19) h20'
      refine ⟨I3, head ?_, N3, g3, Fr.trans' fr2 f3⟩
      rw [if_pos (by omega)]
      exact e3
/-- all that laying leaves -/
def LaidP (T : Td) (ps py lo : Int) (I : Nat → Nat → Int) : Prop := RNI T (runS T lo (FP T ps py)).1 I ∧ I 1170 20 = ((runS T lo (FP T ps py)).2 : Nat) ∧ FirstM (nSa T) (FP T ps py) I ∧ FoundM T I ∧ I 1170 16 = 1
theorem FP_plain (T : Td) (py : Int) : FP T (-1) py = FS T := by
  funext s y
  exact if_neg (by omega)
theorem x9_l41 {ps py lo pl : Int} (hw : WF T) (hT : RefT T I) (hpl : pl = 0 ∨ pl = 1) (h16 : I 1170 16 = 0 ∨ (I 1170 16 = 1 ∧ FoundM T I)) (h17 : I 1170 17 = ps) (h18 : I 1170 18 = py) (h19 : I 1170 19 = lo) :
    ∃ I', D_X9_lays_41 1170 pl (st true n c I W p) = some (st true n c I' W p) ∧ LaidP T ps py lo I' ∧ I' 1170 28 = pl ∧ Fr PL I I' := by
  have hn := hw.1
  unfold WFn at hn
  have hm : nSa T ≤ 12 := by unfold nSa; omega
  have g0 : ∀ b k, ¬ PL b k → u2 (u2 (u2 I 1170 28 pl) 1170 24 0) 1170 20 0 b k = I b k := fun b k q => by unfold PL at q; rw [u2_def, if_neg (by omega), u2_def, if_neg (by omega), u2_def, if_neg (by omega)]
  have T0 : RefT T (u2 (u2 (u2 I 1170 28 pl) 1170 24 0) 1170 20 0) := hT.fr g0 PL_T
  have e16 : u2 (u2 (u2 I 1170 28 pl) 1170 24 0) 1170 20 0 1170 16 = I 1170 16 := by rw [u2_def, if_neg (by omega), u2_def, if_neg (by omega), u2_def, if_neg (by omega)]
  have e28 : u2 (u2 (u2 I 1170 28 pl) 1170 24 0) 1170 20 0 1170 28 = pl := by rw [u2_def, if_neg (by omega), u2_def, if_neg (by omega), u2_def, if_pos ⟨rfl, rfl⟩]
  have e24 : u2 (u2 (u2 I 1170 28 pl) 1170 24 0) 1170 20 0 1170 24 = 0 := by rw [u2_def, if_neg (by omega), u2_def, if_pos ⟨rfl, rfl⟩]
  have e20 : u2 (u2 (u2 I 1170 28 pl) 1170 24 0) 1170 20 0 1170 20 = 0 := by rw [u2_def, if_pos ⟨rfl, rfl⟩]
  have S1 : ∃ I1, D_X9_lays_58 mFU 1170 0 (st true n c (u2 (u2 (u2 I 1170 28 pl) 1170 24 0) 1170 20 0) W p) = some (st true n c I1 W p) ∧ Fr PL I I1 ∧ FoundM T I1 ∧ I1 1170 28 = pl ∧ I1 1170 24 = 0 ∧ I1 1170 20 = 0 := by
    rcases h16 with h | ⟨h, hf⟩
    · obtain ⟨I1, e, f1, f2, f3⟩ := x9_58 (n := n) (c := c) (W := W) (p := p) (I := I) hw (nSa T) 0 mFU _ (by omega) (by unfold mFU; omega) T0 g0 (by rw [e16]; exact h) (fun t ht => by omega)
      exact ⟨I1, e, f1, f3, by rw [f2 _ _ (by omega)]; exact e28, by rw [f2 _ _ (by omega)]; exact e24, by rw [f2 _ _ (by omega)]; exact e20⟩
    · refine ⟨_, x9_58done hw T0 (by rw [e16]; exact h), g0, fun t ht y hy => ?_, e28, e24, e20⟩
      rw [u2_def, if_neg (by omega), u2_def, if_neg (by omega), u2_def, if_neg (by omega)]
      exact hf t ht y hy
  obtain ⟨I1, e1, f1, d1, a28, a24, a20⟩ := S1
  have k2 : ∀ b k, ¬ (b = 1170 ∧ k = 16) → u2 I1 1170 16 1 b k = I1 b k := fun b k q => by rw [u2_def, if_neg q]
  have f2 : Fr PL I (u2 I1 1170 16 1) := fun b k q => by rw [k2 b k (by unfold PL at q; omega)]; exact f1 b k q
  obtain ⟨I3, e3, r1, r2, r3, r4, r5, r6, r7⟩ := x9_91 (n := n) (c := c) (W := W) (p := p) (I := I) (ps := ps) (py := py) hw (nSa T) 0 mFU (u2 I1 1170 16 1) (by omega) (by unfold mFU; omega) (hT.fr f2 PL_T) f2 (fun t ht y hy => by rw [k2 _ _ (by omega)]; exact d1 t ht y hy)
    (by rw [f2 _ _ (by unfold PL; omega)]; exact h17) (by rw [f2 _ _ (by unfold PL; omega)]; exact h18) ⟨fun t ht => by omega, fun r => I1 1218 r, I1 1170 23, fun t ht => by omega, fun r _ => by rw [k2 _ _ (by omega)], by rw [k2 _ _ (by omega)]; exact a24, fun q => absurd rfl q, by rw [k2 _ _ (by omega)]⟩
  obtain ⟨I4, e4, f4, v4⟩ := x9_149 (n := n) (c := c) (W := W) (p := p) (I := I3) 24 0 mFU I3 rfl (by decide) Fr.rfl' (fun q hq => by omega)
  obtain ⟨l1, gg, hh, b1, b2, b3, b4, b5⟩ := r4
  have tr := totN_le (nSa T) (FP T ps py) (nSa T)
  have k4 : ∀ b k, b ≠ 1218 → I4 b k = I3 b k := fun b k q => f4 b k q
  have f4' : Fr PL I3 I4 := Fr.mono (fun b k q => by unfold PL; omega) f4
  have N4 : RNI T (ch0 (startN T (FP T ps py))) (u2 I4 1170 23 0) := by
    have ue : ∀ b j, ¬ (b = 1170 ∧ j = 23) → b ≠ 1218 → u2 I4 1170 23 0 b j = I3 b j := fun b j q q2 => by rw [u2_def, if_neg q, k4 _ _ q2]
    refine ⟨(r3.fr f4' PL_T).fr (P := fun b k => b = 1170 ∧ k = 23) (fun b j q => by rw [u2_def, if_neg q]) (fun b k q => by omega), ⟨fun s hs y hy => ?_, fun r hr => ?_, ?_, fun q => ?_, ?_⟩, ⟨fun r => ?_, Int.le_refl 0, ?_, csA_rng _ _⟩⟩
    · rw [ue _ _ (by omega) (by omega)]; exact b1 s hs y hy
    · rw [u2_def, if_neg (by omega)]; exact v4 r hr
    · rw [ue _ _ (by omega) (by omega)]; exact b3
    · rw [ue _ _ (by omega) (by omega), ue _ _ (by omega) (by omega)]; exact b4 q
    · rw [u2_def, if_pos ⟨rfl, rfl⟩]; rfl
    · have e9 : tot (nSa T) (ch0 (startN T (FP T ps py))) = totN (nSa T) (FP T ps py) (nSa T) := rfl
      show (0 : Int) ≤ 0 ∧ (0 : Int) + _ ≤ _
      rw [e9]
      omega
    · have e9 : tot (nSa T) (ch0 (startN T (FP T ps py))) = totN (nSa T) (FP T ps py) (nSa T) := rfl
      show (0 : Int) + _ ≤ _
      rw [e9]
      omega
  have e9 : tot (nSa T) (startN T (FP T ps py)) = totN (nSa T) (FP T ps py) (nSa T) := rfl
  obtain ⟨I5, e5, N5, g5, f5⟩ := x9_168 (n := n) (c := c) (W := W) (p := p) (lo := lo) hw 12001 mFU 0 I4 (startN T (FP T ps py)) (by rw [e9]; omega) (by decide) (by decide) N4 (by rw [k4 _ _ (by omega), r1 _ _ (by unfold PL; omega)]; exact h19) (by rw [k4 _ _ (by omega), r7, k2 _ _ (by omega)]; exact a20)
  have k5 : ∀ b k, ¬ PN b k → ¬ (b = 1170 ∧ k = 20) → I5 b k = I3 b k := fun b k q q2 => by rw [f5 b k (fun w => w.elim q q2), k4 b k (by unfold PN at q; omega)]
  refine ⟨I5, ?_, ⟨N5, g5, fun t ht y hy => ?_, fun t ht y hy => ?_, ?_⟩, ?_, Fr.trans' r1 (Fr.trans' f4' (Fr.mono (fun b k q => by unfold PN at q; unfold PL; omega) f5))⟩
  · unfold D_X9_lays_41 D_X9_lays_84
    refine bdk (z9B hpl) (bdk (z9B (Or.inl rfl)) (bdk z9P (bdk e1 (bdk (z9B (Or.inr rfl)) (bdk e3 (bdk e4 (bdk e5 rfl)))))))
  · rw [k5 _ _ (by unfold PN; omega) (by omega)]; exact l1 t ht y hy
  · rw [k5 _ _ (by unfold PN; omega) (by omega)]; exact r2 t ht y hy
  · rw [k5 _ _ (by unfold PN; omega) (by omega), r5, u2_def, if_pos ⟨rfl, rfl⟩]
  · rw [k5 _ _ (by unfold PN; omega) (by omega), r6, k2 _ _ (by omega)]; exact a28
theorem x9_lays {ps py lo : Int} (hw : WF T) (hT : RefT T I) (hF : RefF T I) (h17 : I 1170 17 = ps) (h18 : I 1170 18 = py) (h19 : I 1170 19 = lo) :
    ∃ I', D_X9_lays 1170 (st true n c I W p) = some (st true n c I' W p) ∧ LaidP T ps py lo I' ∧ I' 1170 28 = (if lo = -1 ∧ ps = -1 then 1 else 0) ∧ Fr PL I I' := by
  unfold D_X9_lays D_X9_lays_20
  by_cases q : lo = -1 ∧ ps = -1
  · obtain ⟨rfl, rfl⟩ := q
    have head : ∀ {R : Option mS}, D_X9_lays_21 1170 1 (st true n c I W p) = R → ((gI (st true n c I W p) 1170 8 19).bind fun v1 => if v1 ≠ (-1) then D_X9_lays_21 1170 0 (st true n c I W p) else (gI (st true n c I W p) 1170 8 17).bind fun v2 => if v2 ≠ (-1) then D_X9_lays_21 1170 0 (st true n c I W p) else D_X9_lays_21 1170 1 (st true n c I W p)) = R := by
      intro R h
      refine bdk z9I ?_
      rw [h19, if_neg (by decide)]
      refine bdk z9I ?_
      rw [h17, if_neg (by decide)]
      exact h
    have go : (I 1170 28 = 0 ∨ I 1170 16 = 0) → D_X9_lays_21 1170 1 (st true n c I W p) = D_X9_lays_41 1170 1 (st true n c I W p) := by
      intro h
      unfold D_X9_lays_21
      rw [if_neg (by decide)]
      refine bdk z9I ?_
      by_cases z : I 1170 28 = 0
      · exact if_pos z
      · rw [if_neg z]
        refine bdk z9I ?_
        exact if_pos (h.resolve_left z)
    rw [if_pos ⟨rfl, rfl⟩]
    by_cases z : I 1170 28 = 0 ∨ I 1170 16 = 0
    · obtain ⟨I', e, h1, h2, h3⟩ := x9_l41 (n := n) (c := c) (W := W) (p := p) (pl := 1) hw hT (Or.inr rfl) hF.1 h17 h18 h19
      exact ⟨I', head ((go z).trans e), h1, h2, h3⟩
    · have z28 : I 1170 28 = 1 := by have := hF.2.1; omega
      have z16 : I 1170 16 = 1 := by have := hF.1; omega
      obtain ⟨w1, w2, w3⟩ := hF.2.2 z16 z28
      have wf : FoundM T I := by
        rcases hF.1 with h | h
        · omega
        · exact h.2
      refine ⟨I, head ?_, ⟨?_, ?_, ?_, wf, z16⟩, z28, Fr.rfl'⟩
      · unfold D_X9_lays_21
        rw [if_neg (by decide)]
        refine bdk z9I ?_
        rw [if_neg (by omega)]
        refine bdk z9I ?_
        rw [if_neg (by omega)]
      · rw [FP_plain]; exact w1
      · rw [FP_plain]; exact w2
      · rw [FP_plain]; exact w3
  · rw [if_neg q]
    obtain ⟨I', e, h1, h2, h3⟩ := x9_l41 (n := n) (c := c) (W := W) (p := p) (pl := 0) hw hT (Or.inl rfl) hF.1 h17 h18 h19
    refine ⟨I', bdk z9I ?_, h1, h2, h3⟩
    rw [h19]
    by_cases z : lo = -1
    · rw [if_neg (by omega)]
      refine bdk z9I ?_
      rw [h17, if_pos (by omega)]
      exact e
    · rw [if_pos z]
      exact e
end RL
