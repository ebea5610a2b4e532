/-! THE PURE PART: the reference's rules -/
def RefT (T : Td) (I : Nat → Nat → Int) : Prop := (∀ j, j < 303 → I 1172 j = T j) ∧ I 1170 8 = T 303 ∧ I 1170 6 = T 304 ∧ I 1170 7 = T 305 ∧ (∀ k, k < 16 → I 1175 k = T (310 + k)) ∧ (∀ k, k < 16 → I 1176 k = T (330 + k)) ∧ (∀ k, k < 4 → I 1177 k = T (350 + k)) ∧ ∀ k, k < 24 → I 1178 k = T (360 + k)
theorem RefT.fr {T : Td} {I I' : Nat → Nat → Int} {P : Nat → Nat → Prop} (h : RefT T I) (hf : Fr P I I') (hp : ∀ b k, P b k → b ≠ 1172 ∧ b ≠ 1175 ∧ b ≠ 1176 ∧ b ≠ 1177 ∧ b ≠ 1178 ∧ ¬ (b = 1170 ∧ 6 ≤ k ∧ k ≤ 8)) : RefT T I' := by
  obtain ⟨h1, h2, h3, h4, h5, h6, h7, h8⟩ := h
  refine ⟨fun j hj => ?_, ?_, ?_, ?_, fun k hk => ?_, fun k hk => ?_, fun k hk => ?_, fun k hk => ?_⟩
  · rw [hf _ _ (fun q => (hp _ _ q).1 rfl)]; exact h1 j hj
  · rw [hf _ _ (fun q => (hp _ _ q).2.2.2.2.2 (by omega))]; exact h2
  · rw [hf _ _ (fun q => (hp _ _ q).2.2.2.2.2 (by omega))]; exact h3
  · rw [hf _ _ (fun q => (hp _ _ q).2.2.2.2.2 (by omega))]; exact h4
  · rw [hf _ _ (fun q => (hp _ _ q).2.1 rfl)]; exact h5 k hk
  · rw [hf _ _ (fun q => (hp _ _ q).2.2.1 rfl)]; exact h6 k hk
  · rw [hf _ _ (fun q => (hp _ _ q).2.2.2.1 rfl)]; exact h7 k hk
  · rw [hf _ _ (fun q => (hp _ _ q).2.2.2.2.1 rfl)]; exact h8 k hk
theorem PN_T : ∀ b k, PN b k → b ≠ 1172 ∧ b ≠ 1175 ∧ b ≠ 1176 ∧ b ≠ 1177 ∧ b ≠ 1178 ∧ ¬ (b = 1170 ∧ 6 ≤ k ∧ k ≤ 8) := fun b k h => by unfold PN at h; omega
def RNI (T : Td) (N : NS) (I : Nat → Nat → Int) : Prop := RefT T I ∧ NarM (nSa T) N I ∧ Ninv (nSa T) N
section RA
variable {n : Nat} {c : Nat × Nat × Nat × Nat} {I : Nat → Nat → Int} {W : Nat → Nat → BitVec 64} {p : Nat → Nat} {T : Td} {N : NS}
theorem x9_both {r a b : Nat} {l h : Int} (hm : nSa T ≤ 12) (ha : a < nSa T) (hb : b < nSa T) (hab : a ≠ b) (hr : r < 24) (hl : -1000 ≤ l ∧ l ≤ 1000) (hh : -1000 ≤ h ∧ h ≤ 1000) (hN : RNI T N I) :
    ∃ I', D_X9_both 1170 (r : Int) (a : Int) (b : Int) l h (st true n c I W p) = some (st true n c I' W p) ∧ RNI T (doL r (both a b l h) N) I' ∧ Fr PN I I' := by
  obtain ⟨h1, h2, h3⟩ := hN
  obtain ⟨I1, e1, w1, f1⟩ := x9_narrows (n := n) (c := c) (W := W) (p := p) (lo := -h) (hi := -l) hm hb ha (fun q => hab q.symm) hr (by omega) (by omega) h2 h3
  have v1 : Ninv (nSa T) (doO r (b, a, -h, -l) N) := h3.cut hb
  obtain ⟨I2, e2, w2, f2⟩ := x9_narrows (n := n) (c := c) (W := W) (p := p) (lo := l) (hi := h) hm ha hb hab hr hl hh w1 v1
  have fr := Fr.trans' f1 f2
  refine ⟨I2, ?_, ⟨h1.fr fr PN_T, w2, v1.cut ha⟩, fr⟩
  unfold D_X9_both
  refine bdk z9T ?_
  rw [mw_of (by omega) (by omega), mw_of (by omega) (by omega)]
  exact bdk e1 (bdk z9T (bdk e2 rfl))
theorem x9_orders {r a b : Nat} {k : Int} (hm : nSa T ≤ 12) (ha : a < nSa T) (hb : b < nSa T) (hr : r < 24) (hk : 0 ≤ k ∧ k ≤ 999) (hN : RNI T N I) :
    ∃ I', D_X9_orders 1170 (r : Int) (a : Int) (b : Int) k (st true n c I W p) = some (st true n c I' W p) ∧ RNI T (doL r (ordO a b k) N) I' ∧ Fr PN I I' := by
  unfold ordO D_X9_orders
  by_cases q : a = b
  · subst q
    rw [if_pos rfl, if_pos rfl]
    by_cases z : 0 < k
    · rw [if_pos z, if_neg (by omega)]
      obtain ⟨I1, e1, w1, f1⟩ := x9_bounded (n := n) (c := c) (W := W) (p := p) (lo := 1000) (hi := -1) hm ha hr hN.2.1 hN.2.2
      exact ⟨I1, bdk z9T (bdk e1 rfl), ⟨hN.1.fr f1 PN_T, w1, hN.2.2.cut ha⟩, f1⟩
    · rw [if_neg z, if_pos (by omega)]
      exact ⟨I, rfl, hN, Fr.rfl'⟩
  · rw [if_neg q, if_neg (by omega)]
    obtain ⟨I1, e1, w1, f1⟩ := x9_both (n := n) (c := c) (W := W) (p := p) (l := k) (h := 999) hm ha hb q hr (by omega) (by decide) hN
    exact ⟨I1, bdk z9T (bdk e1 rfl), w1, f1⟩
theorem x9_ruleAt {r w : Nat} (hr : r < 24) (hw : w < 5) (hT : RefT T I) : D_X9_ruleAt 1170 (r : Int) (w : Int) (st true n c I W p) = some (tRu T r w) := by
  unfold D_X9_ruleAt
  refine bdk z9R2 ?_
  rw [mw_of (x := 5 * (r : Int)) (by omega) (by omega), mw_of (x := 3 + 5 * (r : Int)) (by omega) (by omega), mw_of (by omega) (by omega)]
  refine bdk (z9L2 (by omega) (by omega)) ?_
  rw [show (3 + 5 * (r : Int) + (w : Int)).toNat = 3 + 5 * r + w by omega, hT.1 _ (by omega)]
  rfl
theorem x9_memberOf {q k : Nat} (hq : q < 4) (hk : k < 6) (hT : RefT T I) : D_X9_memberOf 1170 (q : Int) (k : Int) (st true n c I W p) = some (T (360 + 6 * q + k)) := by
  unfold D_X9_memberOf
  refine bdk z9R12 ?_
  rw [mw_of (x := 6 * (q : Int)) (by omega) (by omega), mw_of (by omega) (by omega)]
  refine bdk (z9L12 (by omega) (by omega)) ?_
  rw [show (6 * (q : Int) + (k : Int)).toNat = 6 * q + k by omega, hT.2.2.2.2.2.2.2 _ (by omega), show 360 + (6 * q + k) = 360 + 6 * q + k by omega]
theorem x9_137 {r a b i : Nat} {k : Int} (hm : nSa T ≤ 12) (hr : r < 24) (hk : 0 ≤ k ∧ k ≤ 999) (ha : a < 4) (hb : b < 4) (wa : WFp T a) (wb' : WFp T b) (hi : (i : Int) < T (350 + a)) : ∀ (d j f : Nat) (I : Nat → Nat → Int) (N : NS), (j : Int) + d = T (350 + b) → d < f → RNI T N I →
    ∃ I', D_X9_applies_137 f 1170 (r : Int) (a : Int) (b : Int) k (i : Int) (j : Nat) (st true n c I W p) = some (st true n c I' W p) ∧ RNI T (doL r (flt (fun j => ordO (tPm T a i) (tPm T b j) k) d j) N) I' ∧ Fr PN I I' := by
  intro d
  induction d with
  | zero =>
    intro j f I N hj hf hN
    obtain ⟨f, rfl⟩ : ∃ g, f = g + 1 := ⟨f - 1, by omega⟩
    refine ⟨I, ?_, hN, Fr.rfl'⟩
    refine bdk z9R11 (bdk (z9L11 (by omega) (by omega)) ?_)
    rw [toN, hN.1.2.2.2.2.2.2.1 b hb]
    exact if_pos (by omega)
  | succ d ih =>
    intro j f I N hj hf hN
    obtain ⟨f, rfl⟩ : ∃ g, f = g + 1 := ⟨f - 1, by omega⟩
    have m1 := wa.2.1 i hi
    have m2 := wb'.2.1 j (by omega)
    have s1 := wa.1
    have s2 := wb'.1
    have p1 : T (360 + 6 * a + i) = ((tPm T a i : Nat) : Int) := by unfold tPm; omega
    have p2 : T (360 + 6 * b + j) = ((tPm T b j : Nat) : Int) := by unfold tPm; omega
    obtain ⟨I1, e1, w1, f1⟩ := x9_orders (n := n) (c := c) (W := W) (p := p) (a := tPm T a i) (b := tPm T b j) (k := k) hm (by unfold tPm nSa; omega) (by unfold tPm nSa; omega) hr hk hN
    obtain ⟨I2, e2, w2, f2⟩ := ih (j + 1) f I1 _ (by omega) (by omega) w1
    refine ⟨I2, ?_, ?_, Fr.trans' f1 f2⟩
    · refine bdk z9R11 (bdk (z9L11 (by omega) (by omega)) ?_)
      rw [toN, hN.1.2.2.2.2.2.2.1 b hb, if_neg (by omega)]
      refine bdk z9T (bdk (x9_memberOf ha (by omega) hN.1) (bdk z9T (bdk (x9_memberOf hb (by omega) hN.1) (bdk z9T ?_))))
      rw [p1, p2]
      refine bdk e1 ?_
      rw [mw_n (by omega)]
      exact e2
    · show RNI T (doL r (ordO (tPm T a i) (tPm T b j) k ++ flt _ d (j + 1)) N) I2
      rw [doL_app]
      exact w2
theorem x9_123 {r a b : Nat} {k : Int} (hm : nSa T ≤ 12) (hr : r < 24) (hk : 0 ≤ k ∧ k ≤ 999) (ha : a < 4) (hb : b < 4) (wa : WFp T a) (wb' : WFp T b) : ∀ (d i f : Nat) (I : Nat → Nat → Int) (N : NS), (i : Int) + d = T (350 + a) → d < f → RNI T N I →
    ∃ I', D_X9_applies_123 f 1170 (r : Int) (a : Int) (b : Int) k (i : Nat) (st true n c I W p) = some (st true n c I' W p) ∧ RNI T (doL r (flt (fun i => flt (fun j => ordO (tPm T a i) (tPm T b j) k) (tPn T b) 0) d i) N) I' ∧ Fr PN I I' := by
  intro d
  induction d with
  | zero =>
    intro i f I N hj hf hN
    obtain ⟨f, rfl⟩ : ∃ g, f = g + 1 := ⟨f - 1, by omega⟩
    refine ⟨I, ?_, hN, Fr.rfl'⟩
    refine bdk z9R11 (bdk (z9L11 (by omega) (by omega)) ?_)
    rw [toN, hN.1.2.2.2.2.2.2.1 a ha]
    exact if_pos (by omega)
  | succ d ih =>
    intro i f I N hj hf hN
    obtain ⟨f, rfl⟩ : ∃ g, f = g + 1 := ⟨f - 1, by omega⟩
    have s1 := wa.1
    have s2 := wb'.1
    obtain ⟨I1, e1, w1, f1⟩ := x9_137 (n := n) (c := c) (W := W) (p := p) (k := k) (i := i) hm hr hk ha hb wa wb' (by omega) (tPn T b) 0 mFU I N (by unfold tPn; omega) (by unfold tPn mFU; omega) hN
    obtain ⟨I2, e2, w2, f2⟩ := ih (i + 1) f I1 _ (by omega) (by omega) w1
    refine ⟨I2, ?_, ?_, Fr.trans' f1 f2⟩
    · refine bdk z9R11 (bdk (z9L11 (by omega) (by omega)) ?_)
      rw [toN, hN.1.2.2.2.2.2.2.1 a ha, if_neg (by omega)]
      refine bdk e1 ?_
      rw [mw_n (by omega)]
      exact e2
    · show RNI T (doL r (flt _ (tPn T b) 0 ++ flt _ d (i + 1)) N) I2
      rw [doL_app]
      exact w2
theorem x9_204 {r a i : Nat} {k : Int} (hm : nSa T ≤ 12) (hr : r < 24) (hk : 0 ≤ k ∧ k ≤ 999) (ha : a < 4) (wa : WFp T a) : ∀ (d j f : Nat) (I : Nat → Nat → Int) (N : NS), i < j → (j : Int) + d = T (350 + a) → d < f → RNI T N I →
    ∃ I', D_X9_applies_204 f 1170 (r : Int) (a : Int) k (i : Int) (j : Nat) (st true n c I W p) = some (st true n c I' W p) ∧ RNI T (doL r (flt (fun j => both (tPm T a i) (tPm T a j) (-k) k) d j) N) I' ∧ Fr PN I I' := by
  intro d
  induction d with
  | zero =>
    intro j f I N hij hj hf hN
    obtain ⟨f, rfl⟩ : ∃ g, f = g + 1 := ⟨f - 1, by omega⟩
    refine ⟨I, ?_, hN, Fr.rfl'⟩
    refine bdk z9R11 (bdk (z9L11 (by omega) (by omega)) ?_)
    rw [toN, hN.1.2.2.2.2.2.2.1 a ha]
    exact if_pos (by omega)
  | succ d ih =>
    intro j f I N hij hj hf hN
    obtain ⟨f, rfl⟩ : ∃ g, f = g + 1 := ⟨f - 1, by omega⟩
    have m1 := wa.2.1 i (by omega)
    have m2 := wa.2.1 j (by omega)
    have s1 := wa.1
    have dd := wa.2.2 i j hij (by omega)
    have p1 : T (360 + 6 * a + i) = ((tPm T a i : Nat) : Int) := by unfold tPm; omega
    have p2 : T (360 + 6 * a + j) = ((tPm T a j : Nat) : Int) := by unfold tPm; omega
    obtain ⟨I1, e1, w1, f1⟩ := x9_both (n := n) (c := c) (W := W) (p := p) (a := tPm T a i) (b := tPm T a j) (l := -k) (h := k) hm (by unfold tPm nSa; omega) (by unfold tPm nSa; omega) (by omega) hr (by omega) (by omega) hN
    obtain ⟨I2, e2, w2, f2⟩ := ih (j + 1) f I1 _ (by omega) (by omega) (by omega) w1
    refine ⟨I2, ?_, ?_, Fr.trans' f1 f2⟩
    · refine bdk z9R11 (bdk (z9L11 (by omega) (by omega)) ?_)
      rw [toN, hN.1.2.2.2.2.2.2.1 a ha, if_neg (by omega)]
      refine bdk z9T (bdk (x9_memberOf ha (by omega) hN.1) (bdk z9T (bdk (x9_memberOf ha (by omega) hN.1) (bdk z9T ?_))))
      rw [p1, p2, mw_of (by omega) (by omega)]
      refine bdk e1 ?_
      rw [mw_n (by omega)]
      exact e2
    · show RNI T (doL r (both (tPm T a i) (tPm T a j) (-k) k ++ flt _ d (j + 1)) N) I2
      rw [doL_app]
      exact w2
theorem x9_187 {r a : Nat} {k : Int} (hm : nSa T ≤ 12) (hr : r < 24) (hk : 0 ≤ k ∧ k ≤ 999) (ha : a < 4) (wa : WFp T a) : ∀ (d i f : Nat) (I : Nat → Nat → Int) (N : NS), (i : Int) + d = T (350 + a) → d < f → RNI T N I →
    ∃ I', D_X9_applies_187 f 1170 (r : Int) (a : Int) k (i : Nat) (st true n c I W p) = some (st true n c I' W p) ∧ RNI T (doL r (flt (fun i => flt (fun j => both (tPm T a i) (tPm T a j) (-k) k) (tPn T a - (i + 1)) (i + 1)) d i) N) I' ∧ Fr PN I I' := by
  intro d
  induction d with
  | zero =>
    intro i f I N hj hf hN
    obtain ⟨f, rfl⟩ : ∃ g, f = g + 1 := ⟨f - 1, by omega⟩
    refine ⟨I, ?_, hN, Fr.rfl'⟩
    refine bdk z9R11 (bdk (z9L11 (by omega) (by omega)) ?_)
    rw [toN, hN.1.2.2.2.2.2.2.1 a ha]
    exact if_pos (by omega)
  | succ d ih =>
    intro i f I N hj hf hN
    obtain ⟨f, rfl⟩ : ∃ g, f = g + 1 := ⟨f - 1, by omega⟩
    have s1 := wa.1
    obtain ⟨I1, e1, w1, f1⟩ := x9_204 (n := n) (c := c) (W := W) (p := p) (k := k) (i := i) hm hr hk ha wa (tPn T a - (i + 1)) (i + 1) mFU I N (by omega) (by unfold tPn; omega) (by unfold tPn mFU; omega) hN
    obtain ⟨I2, e2, w2, f2⟩ := ih (i + 1) f I1 _ (by omega) (by omega) w1
    refine ⟨I2, ?_, ?_, Fr.trans' f1 f2⟩
    · refine bdk z9R11 (bdk (z9L11 (by omega) (by omega)) ?_)
      rw [toN, hN.1.2.2.2.2.2.2.1 a ha, if_neg (by omega), mw_n (by omega)]
      exact bdk e1 e2
    · show RNI T (doL r (flt _ (tPn T a - (i + 1)) (i + 1) ++ flt _ d (i + 1)) N) I2
      rw [doL_app]
      exact w2
theorem x9_applies {r : Nat} (hw : WF T) (hr : (r : Int) < T 2) (hN : RNI T N I) : ∃ I', D_X9_applies 1170 (r : Int) (st true n c I W p) = some (st true n c I' W p) ∧ RNI T (doL r (opsR T r) N) I' ∧ Fr PN I I' := by
  have hn := hw.1
  unfold WFn at hn
  have hm : nSa T ≤ 12 := by unfold nSa; omega
  have hr24 : r < 24 := by omega
  have H0 := x9_ruleAt (n := n) (c := c) (W := W) (p := p) (r := r) (w := 0) hr24 (by decide) hN.1
  have H1 := x9_ruleAt (n := n) (c := c) (W := W) (p := p) (r := r) (w := 1) hr24 (by decide) hN.1
  have H2 := x9_ruleAt (n := n) (c := c) (W := W) (p := p) (r := r) (w := 2) hr24 (by decide) hN.1
  have H3 := x9_ruleAt (n := n) (c := c) (W := W) (p := p) (r := r) (w := 3) hr24 (by decide) hN.1
  have H4 := x9_ruleAt (n := n) (c := c) (W := W) (p := p) (r := r) (w := 4) hr24 (by decide) hN.1
  have wr := hw.2.2.2.2 r hr
  have wp := hw.2.2.2.1
  have start : ∀ {R : Option mS}, (if tRu T r 0 = 0 then (tgO (st true n c I W p) 1170 8).bind fun _ => (D_X9_ruleAt 1170 (r : Int) 4 (st true n c I W p)).bind fun r5 => (tgO (st true n c I W p) 1170 8).bind fun _ => (D_X9_both 1170 (r : Int) (tRu T r 1) (tRu T r 2) (tRu T r 3) r5 (st true n c I W p)).bind fun r6 => D_X9_applies_251 r6
      else if tRu T r 0 = 1 then (tgO (st true n c I W p) 1170 8).bind fun _ => (D_X9_both 1170 (r : Int) (tRu T r 1) (tRu T r 2) 0 0 (st true n c I W p)).bind fun r7 => D_X9_applies_251 r7
      else if tRu T r 0 = 2 then (tgO (st true n c I W p) 1170 8).bind fun _ => (D_X9_bounded 1170 (r : Int) (tRu T r 1) (tRu T r 3) 999 (st true n c I W p)).bind fun r8 => D_X9_applies_251 r8
      else if tRu T r 0 = 3 then (tgO (st true n c I W p) 1170 8).bind fun _ => (D_X9_bounded 1170 (r : Int) (tRu T r 1) 0 (tRu T r 3) (st true n c I W p)).bind fun r9 => D_X9_applies_251 r9
      else if tRu T r 0 = 4 then (D_X9_applies_123 mFU 1170 (r : Int) (tRu T r 1) (tRu T r 2) (tRu T r 3) 0 (st true n c I W p)).bind fun r10 => D_X9_applies_251 r10
      else (D_X9_applies_187 mFU 1170 (r : Int) (tRu T r 1) (tRu T r 3) 0 (st true n c I W p)).bind fun r11 => D_X9_applies_251 r11) = R → D_X9_applies 1170 (r : Int) (st true n c I W p) = R := by
    intro R h
    unfold D_X9_applies
    exact bdk z9T (bdk H1 (bdk z9T (bdk H2 (bdk z9T (bdk H3 (bdk z9T (bdk H0 h)))))))
  have toI : ∀ x : Int, 0 ≤ x → x = ((x.toNat : Nat) : Int) := fun x hx => by omega
  unfold opsR
  rcases wr with ⟨k0, ⟨a0, a1⟩, ⟨b0, b1⟩, hab, l0, l1, l2⟩ | ⟨k0, ⟨a0, a1⟩, ⟨b0, b1⟩, hab, l0, l1⟩ | ⟨k0, ⟨a0, a1⟩, -, ⟨l0, l1⟩, -⟩ | ⟨k0, ⟨a0, a1⟩, ⟨b0, b1⟩, hab, ⟨l0, l1⟩, -⟩ | ⟨k0, ⟨a0, a1⟩, -, ⟨l0, l1⟩, -⟩
  · obtain ⟨I1, e1, w1, f1⟩ := x9_both (n := n) (c := c) (W := W) (p := p) (a := (tRu T r 1).toNat) (b := (tRu T r 2).toNat) (l := tRu T r 3) (h := tRu T r 4) hm (by unfold nSa; omega) (by unfold nSa; omega) (by omega) hr24 (by omega) (by omega) hN
    rw [← toI _ a0, ← toI _ b0] at e1
    refine ⟨I1, start ?_, ?_, f1⟩
    · rw [if_pos k0]
      exact bdk z9T (bdk H4 (bdk z9T (bdk e1 rfl)))
    · rw [if_pos k0]
      exact w1
  · obtain ⟨I1, e1, w1, f1⟩ := x9_both (n := n) (c := c) (W := W) (p := p) (a := (tRu T r 1).toNat) (b := (tRu T r 2).toNat) (l := 0) (h := 0) hm (by unfold nSa; omega) (by unfold nSa; omega) (by omega) hr24 (by omega) (by omega) hN
    rw [← toI _ a0, ← toI _ b0] at e1
    refine ⟨I1, start ?_, ?_, f1⟩
    · rw [if_neg (by omega), if_pos k0]
      exact bdk z9T (bdk e1 rfl)
    · rw [if_neg (by omega), if_pos k0]
      exact w1
  · rcases k0 with k0 | k0
    · obtain ⟨I1, e1, w1, f1⟩ := x9_bounded (n := n) (c := c) (W := W) (p := p) (s := (tRu T r 1).toNat) (lo := tRu T r 3) (hi := 999) hm (by unfold nSa; omega) hr24 hN.2.1 hN.2.2
      rw [← toI _ a0] at e1
      refine ⟨I1, start ?_, ?_, f1⟩
      · rw [if_neg (by omega), if_neg (by omega), if_pos k0]
        exact bdk z9T (bdk e1 rfl)
      · rw [if_neg (by omega), if_neg (by omega), if_pos k0]
        exact ⟨hN.1.fr f1 PN_T, w1, hN.2.2.cut (by unfold nSa; omega)⟩
    · obtain ⟨I1, e1, w1, f1⟩ := x9_bounded (n := n) (c := c) (W := W) (p := p) (s := (tRu T r 1).toNat) (lo := 0) (hi := tRu T r 3) hm (by unfold nSa; omega) hr24 hN.2.1 hN.2.2
      rw [← toI _ a0] at e1
      refine ⟨I1, start ?_, ?_, f1⟩
      · rw [if_neg (by omega), if_neg (by omega), if_neg (by omega), if_pos k0]
        exact bdk z9T (bdk e1 rfl)
      · rw [if_neg (by omega), if_neg (by omega), if_neg (by omega), if_pos k0]
        exact ⟨hN.1.fr f1 PN_T, w1, hN.2.2.cut (by unfold nSa; omega)⟩
  · have wa := wp (tRu T r 1).toNat (by omega)
    have wb' := wp (tRu T r 2).toNat (by omega)
    have s1 := wa.1
    obtain ⟨I1, e1, w1, f1⟩ := x9_123 (n := n) (c := c) (W := W) (p := p) (k := tRu T r 3) hm hr24 ⟨l0, l1⟩ (by omega) (by omega) wa wb' (tPn T (tRu T r 1).toNat) 0 mFU I N (by unfold tPn; omega) (by unfold tPn mFU; omega) hN
    rw [← toI _ a0, ← toI _ b0] at e1
    refine ⟨I1, start ?_, ?_, f1⟩
    · rw [if_neg (by omega), if_neg (by omega), if_neg (by omega), if_neg (by omega), if_pos k0]
      exact bdk e1 rfl
    · rw [if_neg (by omega), if_neg (by omega), if_neg (by omega), if_neg (by omega), if_pos k0]
      exact w1
  · have wa := wp (tRu T r 1).toNat (by omega)
    have s1 := wa.1
    obtain ⟨I1, e1, w1, f1⟩ := x9_187 (n := n) (c := c) (W := W) (p := p) (k := tRu T r 3) hm hr24 ⟨l0, l1⟩ (by omega) wa (tPn T (tRu T r 1).toNat) 0 mFU I N (by unfold tPn; omega) (by unfold tPn mFU; omega) hN
    rw [← toI _ a0] at e1
    refine ⟨I1, start ?_, ?_, f1⟩
    · rw [if_neg (by omega), if_neg (by omega), if_neg (by omega), if_neg (by omega), if_neg (by omega)]
      exact bdk e1 rfl
    · rw [if_neg (by omega), if_neg (by omega), if_neg (by omega), if_neg (by omega), if_neg (by omega)]
      exact w1
end RA
