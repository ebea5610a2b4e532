/-! THE PURE PART: the desk binds the pairs of all rules -/
theorem tmF : ∀ g : Bool, ∀ s, s < 12 → HC g (257 + s) = (51, 12) ∧ HC g (270 + s) = (51, 12) ∧ RR g 256 s = 257 + s ∧ RR g 269 s = 270 + s := by decide +kernel
section TB
variable {g : Bool} {n : Nat} {c : Nat × Nat × Nat × Nat} {I : Nat → Nat → Int} {W : Nat → Nat → BitVec 64} {p : Nat → Nat} {T : Td}
theorem t6I {k : Nat} : gI (st g n c I W p) 254 6 k = some (I 254 k) := s_gI (show HC g 254 = (7, 8) from rfl)
theorem t6P {k : Nat} {x : Int} : pI (st g n c I W p) 254 6 k x = some (st g n c (u2 I 254 k x) W p) := s_pI (show HC g 254 = (7, 8) from rfl)
theorem t6B {k : Nat} {x : Int} (hx : x = 0 ∨ x = 1) : pB (st g n c I W p) 254 6 k x = some (st g n c (u2 I 254 k x) W p) := s_pB (show HC g 254 = (7, 8) from rfl) hx
theorem t6T : tgO (st g n c I W p) 254 6 = some () := s_tgO (show HC g 254 = (7, 8) from rfl)
theorem t6R0 : gR (st g n c I W p) 254 6 0 = some 255 := s_gR (show HC g 254 = (7, 8) from rfl) (by decide)
theorem t6R4 : gR (st g n c I W p) 254 6 4 = some 34 := s_gR (show HC g 254 = (7, 8) from rfl) (by decide)
theorem t6R5 : gR (st g n c I W p) 254 6 5 = some 188 := s_gR (show HC g 254 = (7, 8) from rfl) (by decide)
theorem t6R6 : gR (st g n c I W p) 254 6 6 = some 256 := s_gR (show HC g 254 = (7, 8) from rfl) (by decide)
theorem t6R7 : gR (st g n c I W p) 254 6 7 = some 269 := s_gR (show HC g 254 = (7, 8) from rfl) (by decide)
theorem t6L {i : Int} (h0 : 0 ≤ i) (h1 : i < 12) : lI (st g n c I W p) 255 i = some (I 255 i.toNat) := s_lI (show HC g 255 = (51, 12) from rfl) h0 h1
theorem t6S {i x : Int} (h0 : 0 ≤ i) (h1 : i < 12) : sI (st g n c I W p) 255 i x = some (st g n c (u2 I 255 i.toNat x) W p) := s_sI (show HC g 255 = (51, 12) from rfl) h0 h1
theorem t6A6 {s : Int} (h0 : 0 ≤ s) (h1 : s < 12) : lR (st g n c I W p) 256 s = some (257 + s.toNat) := by
  rw [s_lR (t := 5) (show HC g 256 = (60, 12) from rfl) (by decide) (by decide) h0 h1, (tmF g s.toNat (by omega)).2.2.1]
theorem t6A7 {s : Int} (h0 : 0 ≤ s) (h1 : s < 12) : lR (st g n c I W p) 269 s = some (270 + s.toNat) := by
  rw [s_lR (t := 5) (show HC g 269 = (60, 12) from rfl) (by decide) (by decide) h0 h1, (tmF g s.toNat (by omega)).2.2.2]
theorem t6L6 {s : Nat} {i : Int} (hs : s < 12) (h0 : 0 ≤ i) (h1 : i < 12) : lI (st g n c I W p) (257 + s) i = some (I (257 + s) i.toNat) := s_lI (tmF g s hs).1 h0 h1
theorem t6S6 {s : Nat} {i x : Int} (hs : s < 12) (h0 : 0 ≤ i) (h1 : i < 12) : sI (st g n c I W p) (257 + s) i x = some (st g n c (u2 I (257 + s) i.toNat x) W p) := s_sI (tmF g s hs).1 h0 h1
theorem t6L7 {s : Nat} {i : Int} (hs : s < 12) (h0 : 0 ≤ i) (h1 : i < 12) : lI (st g n c I W p) (270 + s) i = some (I (270 + s) i.toNat) := s_lI (tmF g s hs).2.1 h0 h1
theorem t6S7 {s : Nat} {i x : Int} (hs : s < 12) (h0 : 0 ≤ i) (h1 : i < 12) : sI (st g n c I W p) (270 + s) i x = some (st g n c (u2 I (270 + s) i.toNat x) W p) := s_sI (tmF g s hs).2.1 h0 h1
/-- the bounds as the desk holds them -/
def MatC (m : Nat) (M : MM) (I : Nat → Nat → Int) : Prop := ∀ s, s < m → ∀ h, h < s → I (257 + s) h = M.1 s h ∧ I (270 + s) h = M.2 s h
def PM (x _k : Nat) : Prop := 257 ≤ x ∧ x < 282
theorem mat_put {m s j : Nat} {M : MM} {v w : Int} (hs : s < 12) (hm : m ≤ 12) (hM : MatC m M I) : MatC m (u2 M.1 s j v, u2 M.2 s j w) (u2 (u2 I (257 + s) j v) (270 + s) j w) := by
  intro t ht h hh
  have := hM t ht h hh
  refine ⟨?_, ?_⟩
  · show u2 (u2 I (257 + s) j v) (270 + s) j w (257 + t) h = u2 M.1 s j v t h
    rw [u2_ne _ _ (by omega)]
    by_cases q : t = s ∧ h = j
    · obtain ⟨rfl, rfl⟩ := q
      rw [u2_eq, u2_eq]
    · rw [u2_ne _ _ (by omega), u2_ne _ _ q]; exact this.1
  · show u2 (u2 I (257 + s) j v) (270 + s) j w (270 + t) h = u2 M.2 s j w t h
    by_cases q : t = s ∧ h = j
    · obtain ⟨rfl, rfl⟩ := q
      rw [u2_eq, u2_eq]
    · rw [u2_ne _ _ (by omega), u2_ne _ _ (by omega), u2_ne _ _ q]; exact this.2
theorem mat_fr {s j : Nat} {v w : Int} (hs : s < 12) : Fr PM I (u2 (u2 I (257 + s) j v) (270 + s) j w) := by
  intro x k q
  unfold PM at q
  rw [u2_def, if_neg (by omega), u2_def, if_neg (by omega)]
theorem x6_bind {m a b : Nat} {l u : Int} {M : MM} (hm : m ≤ 12) (ha : a < m) (hb : b < m) (hl : -1000 ≤ l ∧ l ≤ 1000) (hu : -1000 ≤ u ∧ u ≤ 1000) (hM : MatC m M I) :
    ∃ I', D_X6_bind 254 (a : Int) (b : Int) l u (st g n c I W p) = some (st g n c I' W p) ∧ MatC m (bnd M (a, b, l, u)) I' ∧ Fr PM I I' := by
  unfold D_X6_bind D_X6_bind_97
  by_cases q1 : a < b
  · obtain ⟨m1, m2⟩ := hM b hb a q1
    have eb : bnd M (a, b, l, u) = (u2 M.1 b a (if M.1 b a < l then l else M.1 b a), u2 M.2 b a (if u < M.2 b a then u else M.2 b a)) := if_pos q1
    refine ⟨u2 (u2 I (257 + b) a (if M.1 b a < l then l else M.1 b a)) (270 + b) a (if u < M.2 b a then u else M.2 b a), ?_, ?_, mat_fr (by omega)⟩
    · rw [if_neg (by omega)]
      refine bdk t6R6 (bdk (t6A6 (by omega) (by omega)) (bdk t6R6 (bdk (t6A6 (by omega) (by omega)) ?_)))
      rw [toN]
      refine bdk (t6L6 (by omega) (by omega) (by omega)) ?_
      rw [toN, m1]
      refine bdk (t6S6 (by omega) (by omega) (by omega)) ?_
      refine bdk t6R7 (bdk (t6A7 (by omega) (by omega)) (bdk t6R7 (bdk (t6A7 (by omega) (by omega)) ?_)))
      rw [toN, toN]
      refine bdk (t6L7 (by omega) (by omega) (by omega)) ?_
      rw [toN, u2_ne _ _ (by omega), m2]
      exact bdk (t6S7 (by omega) (by omega) (by omega)) rfl
    · rw [eb]
      exact mat_put (by omega) hm hM
  · by_cases q2 : b < a
    · obtain ⟨m1, m2⟩ := hM a ha b q2
      have eb : bnd M (a, b, l, u) = (u2 M.1 a b (if M.1 a b < -u then -u else M.1 a b), u2 M.2 a b (if -l < M.2 a b then -l else M.2 a b)) := (if_neg q1).trans (if_pos q2)
      refine ⟨u2 (u2 I (257 + a) b (if M.1 a b < -u then -u else M.1 a b)) (270 + a) b (if -l < M.2 a b then -l else M.2 a b), ?_, ?_, mat_fr (by omega)⟩
      · rw [if_pos (by omega), if_neg (by omega), mw_of (by omega) (by omega), mw_of (by omega) (by omega)]
        refine bdk t6R6 (bdk (t6A6 (by omega) (by omega)) (bdk t6R6 (bdk (t6A6 (by omega) (by omega)) ?_)))
        rw [toN]
        refine bdk (t6L6 (by omega) (by omega) (by omega)) ?_
        rw [toN, m1]
        refine bdk (t6S6 (by omega) (by omega) (by omega)) ?_
        refine bdk t6R7 (bdk (t6A7 (by omega) (by omega)) (bdk t6R7 (bdk (t6A7 (by omega) (by omega)) ?_)))
        rw [toN, toN]
        refine bdk (t6L7 (by omega) (by omega) (by omega)) ?_
        rw [toN, u2_ne _ _ (by omega), m2]
        exact bdk (t6S7 (by omega) (by omega) (by omega)) rfl
      · rw [eb]
        exact mat_put (by omega) hm hM
    · refine ⟨I, ?_, ?_, Fr.rfl'⟩
      · rw [if_pos (by omega), if_pos (by omega)]
      · have eb : bnd M (a, b, l, u) = M := (if_neg q1).trans (if_neg q2)
        rw [eb]
        exact hM
/-- what is told, and the bounds -/
def BC (T : Td) (M : MM) (I : Nat → Nat → Int) : Prop := ClsT 34 T I ∧ MatC (nSa T) M I
theorem PM_T : ∀ a k, PM a k → a < 34 ∨ 34 + 74 ≤ a := fun a k q => by unfold PM at q; omega
theorem x6_bindB {a b : Nat} {l u : Int} {M : MM} (hw : WFn T) (ha : a < nSa T) (hb : b < nSa T) (hl : -1000 ≤ l ∧ l ≤ 1000) (hu : -1000 ≤ u ∧ u ≤ 1000) (hB : BC T M I) :
    ∃ I', D_X6_bind 254 (a : Int) (b : Int) l u (st g n c I W p) = some (st g n c I' W p) ∧ BC T (bdL M [(a, b, l, u)]) I' ∧ Fr PM I I' := by
  have hw' := hw
  unfold WFn at hw'
  obtain ⟨I', e, h1, h2⟩ := x6_bind (g := g) (n := n) (c := c) (W := W) (p := p) (m := nSa T) (by unfold nSa; omega) ha hb hl hu hB.2
  exact ⟨I', e, ⟨hB.1.fr hw h2 PM_T, h1⟩, h2⟩
theorem x6_o15 {a o i : Nat} {k : Int} (hw : WF T) (ha : (a : Int) < T 305) (ho : (o : Int) < T 305) (hk : 0 ≤ k ∧ k ≤ 999) (hi : (i : Int) < T (350 + a)) : ∀ (d j f : Nat) (I : Nat → Nat → Int) (M : MM), (j : Int) + d = T (350 + o) → d < f → BC T M I →
    ∃ I', D_X6_bindInOrder_15 f 254 (34 + 42 + 2 * a) (34 + 42 + 2 * o) k (i : Int) (j : Nat) (st g n c I W p) = some (st g n c I' W p) ∧ BC T (bdL M (flt (fun j => [(tPm T a i, tPm T o j, k, 999)]) d j)) I' ∧ Fr PM I I' := by
  have hn := hw.1
  have hn' := hn
  unfold WFn at hn'
  have wa := hw.2.2.2.1 a ha
  have wo := hw.2.2.2.1 o ho
  intro d
  induction d with
  | zero =>
    intro j f I M hj hf hN
    obtain ⟨f, rfl⟩ : ∃ g, f = g + 1 := ⟨f - 1, by omega⟩
    refine ⟨I, bdk (t1I TB34 (by omega)) ?_, hN, Fr.rfl'⟩
    rw [(hN.1.2.2.2.1 o (by unfold nPh; omega)).1]
    exact if_pos (by omega)
  | succ d ih =>
    intro j f I M hj hf hN
    obtain ⟨f, rfl⟩ : ∃ g, f = g + 1 := ⟨f - 1, by omega⟩
    have m1 := wa.2.1 i hi
    have m2 := wo.2.1 j (by omega)
    have s1 := wa.1
    have s2 := wo.1
    have p1 : T (360 + 6 * a + i) = ((tPm T a i : Nat) : Int) := by unfold tPm; omega
    have p2 : T (360 + 6 * o + j) = ((tPm T o j : Nat) : Int) := by unfold tPm; omega
    obtain ⟨I1, e1, g1, f1⟩ := x6_bindB (n := n) (c := c) (W := W) (p := p) (g := g) (a := tPm T a i) (b := tPm T o j) (l := k) (u := 999) hn (by unfold tPm nSa; omega) (by unfold tPm nSa; omega) (by omega) (by decide) hN
    obtain ⟨I2, e2, g2, f2⟩ := ih (j + 1) f I1 _ (by omega) (by omega) g1
    refine ⟨I2, ?_, ?_, Fr.trans' f1 f2⟩
    · refine bdk (t1I TB34 (by omega)) ?_
      rw [(hN.1.2.2.2.1 o (by unfold nPh; omega)).1, if_neg (by omega)]
      refine bdk (t1R1 TB34 (by omega)) (bdk (t1L1 TB34 (by omega) (by omega) (by omega)) (bdk (t1R1 TB34 (by omega)) (bdk (t1L1 TB34 (by omega) (by omega) (by omega)) (bdk t6T ?_))))
      rw [toN, toN, (hN.1.2.2.2.1 a (by unfold nPh; omega)).2 i hi, (hN.1.2.2.2.1 o (by unfold nPh; omega)).2 j (by omega), p1, p2]
      refine bdk e1 ?_
      rw [mw_n (by omega)]
      exact e2
    · show BC T (bdL M ([(tPm T a i, tPm T o j, k, 999)] ++ flt _ d (j + 1))) I2
      rw [bdL_app]
      exact g2
theorem x6_o3 {a o : Nat} {k : Int} (hw : WF T) (ha : (a : Int) < T 305) (ho : (o : Int) < T 305) (hk : 0 ≤ k ∧ k ≤ 999) : ∀ (d i f : Nat) (I : Nat → Nat → Int) (M : MM), (i : Int) + d = T (350 + a) → d < f → BC T M I →
    ∃ I', D_X6_bindInOrder_3 f 254 (34 + 42 + 2 * a) (34 + 42 + 2 * o) k (i : Nat) (st g n c I W p) = some (st g n c I' W p) ∧ BC T (bdL M (flt (fun i => flt (fun j => [(tPm T a i, tPm T o j, k, 999)]) (tPn T o) 0) d i)) I' ∧ Fr PM I I' := by
  have hn := hw.1
  have hn' := hn
  unfold WFn at hn'
  have wa := hw.2.2.2.1 a ha
  have wo := hw.2.2.2.1 o ho
  intro d
  induction d with
  | zero =>
    intro i f I M hj hf hN
    obtain ⟨f, rfl⟩ : ∃ g, f = g + 1 := ⟨f - 1, by omega⟩
    refine ⟨I, bdk (t1I TB34 (by omega)) ?_, hN, Fr.rfl'⟩
    rw [(hN.1.2.2.2.1 a (by unfold nPh; omega)).1]
    exact if_pos (by omega)
  | succ d ih =>
    intro i f I M hj hf hN
    obtain ⟨f, rfl⟩ : ∃ g, f = g + 1 := ⟨f - 1, by omega⟩
    have s1 := wa.1
    have s2 := wo.1
    obtain ⟨I1, e1, g1, f1⟩ := x6_o15 (n := n) (c := c) (W := W) (p := p) (g := g) (i := i) hw ha ho hk (by omega) (tPn T o) 0 mFU I M (by unfold tPn; omega) (by unfold tPn mFU; omega) hN
    obtain ⟨I2, e2, g2, f2⟩ := ih (i + 1) f I1 _ (by omega) (by omega) g1
    refine ⟨I2, ?_, ?_, Fr.trans' f1 f2⟩
    · refine bdk (t1I TB34 (by omega)) ?_
      rw [(hN.1.2.2.2.1 a (by unfold nPh; omega)).1, if_neg (by omega)]
      refine bdk e1 ?_
      rw [mw_n (by omega)]
      exact e2
    · show BC T (bdL M (flt _ (tPn T o) 0 ++ flt _ d (i + 1))) I2
      rw [bdL_app]
      exact g2
theorem x6_t15 {a i : Nat} {k : Int} (hw : WF T) (ha : (a : Int) < T 305) (hk : 0 ≤ k ∧ k ≤ 999) : ∀ (d j f : Nat) (I : Nat → Nat → Int) (M : MM), i < j → (j : Int) + d = T (350 + a) → d < f → BC T M I →
    ∃ I', D_X6_bindTogether_15 f 254 (34 + 42 + 2 * a) k (i : Int) (j : Nat) (st g n c I W p) = some (st g n c I' W p) ∧ BC T (bdL M (flt (fun j => [(tPm T a i, tPm T a j, -k, k)]) d j)) I' ∧ Fr PM I I' := by
  have hn := hw.1
  have hn' := hn
  unfold WFn at hn'
  have wa := hw.2.2.2.1 a ha
  intro d
  induction d with
  | zero =>
    intro j f I M hij hj hf hN
    obtain ⟨f, rfl⟩ : ∃ g, f = g + 1 := ⟨f - 1, by omega⟩
    refine ⟨I, bdk (t1I TB34 (by omega)) ?_, hN, Fr.rfl'⟩
    rw [(hN.1.2.2.2.1 a (by unfold nPh; omega)).1]
    exact if_pos (by omega)
  | succ d ih =>
    intro j f I M hij hj hf hN
    obtain ⟨f, rfl⟩ : ∃ g, f = g + 1 := ⟨f - 1, by omega⟩
    have m1 := wa.2.1 i (by omega)
    have m2 := wa.2.1 j (by omega)
    have s1 := wa.1
    have p1 : T (360 + 6 * a + i) = ((tPm T a i : Nat) : Int) := by unfold tPm; omega
    have p2 : T (360 + 6 * a + j) = ((tPm T a j : Nat) : Int) := by unfold tPm; omega
    obtain ⟨I1, e1, g1, f1⟩ := x6_bindB (n := n) (c := c) (W := W) (p := p) (g := g) (a := tPm T a i) (b := tPm T a j) (l := -k) (u := k) hn (by unfold tPm nSa; omega) (by unfold tPm nSa; omega) (by omega) (by omega) hN
    obtain ⟨I2, e2, g2, f2⟩ := ih (j + 1) f I1 _ (by omega) (by omega) (by omega) g1
    refine ⟨I2, ?_, ?_, Fr.trans' f1 f2⟩
    · refine bdk (t1I TB34 (by omega)) ?_
      rw [(hN.1.2.2.2.1 a (by unfold nPh; omega)).1, if_neg (by omega)]
      refine bdk (t1R1 TB34 (by omega)) (bdk (t1L1 TB34 (by omega) (by omega) (by omega)) (bdk (t1R1 TB34 (by omega)) (bdk (t1L1 TB34 (by omega) (by omega) (by omega)) (bdk t6T ?_))))
      rw [toN, toN, (hN.1.2.2.2.1 a (by unfold nPh; omega)).2 i (by omega), (hN.1.2.2.2.1 a (by unfold nPh; omega)).2 j (by omega), p1, p2, mw_of (by omega) (by omega)]
      refine bdk e1 ?_
      rw [mw_n (by omega)]
      exact e2
    · show BC T (bdL M ([(tPm T a i, tPm T a j, -k, k)] ++ flt _ d (j + 1))) I2
      rw [bdL_app]
      exact g2
theorem x6_t2 {a : Nat} {k : Int} (hw : WF T) (ha : (a : Int) < T 305) (hk : 0 ≤ k ∧ k ≤ 999) : ∀ (d i f : Nat) (I : Nat → Nat → Int) (M : MM), (i : Int) + d = T (350 + a) → d < f → BC T M I →
    ∃ I', D_X6_bindTogether_2 f 254 (34 + 42 + 2 * a) k (i : Nat) (st g n c I W p) = some (st g n c I' W p) ∧ BC T (bdL M (flt (fun i => flt (fun j => [(tPm T a i, tPm T a j, -k, k)]) (tPn T a - (i + 1)) (i + 1)) d i)) I' ∧ Fr PM I I' := by
  have hn := hw.1
  have hn' := hn
  unfold WFn at hn'
  have wa := hw.2.2.2.1 a ha
  intro d
  induction d with
  | zero =>
    intro i f I M hj hf hN
    obtain ⟨f, rfl⟩ : ∃ g, f = g + 1 := ⟨f - 1, by omega⟩
    refine ⟨I, bdk (t1I TB34 (by omega)) ?_, hN, Fr.rfl'⟩
    rw [(hN.1.2.2.2.1 a (by unfold nPh; omega)).1]
    exact if_pos (by omega)
  | succ d ih =>
    intro i f I M hj hf hN
    obtain ⟨f, rfl⟩ : ∃ g, f = g + 1 := ⟨f - 1, by omega⟩
    have s1 := wa.1
    obtain ⟨I1, e1, g1, f1⟩ := x6_t15 (n := n) (c := c) (W := W) (p := p) (g := g) (i := i) hw ha hk (tPn T a - (i + 1)) (i + 1) mFU I M (by omega) (by unfold tPn; omega) (by unfold tPn mFU; omega) hN
    obtain ⟨I2, e2, g2, f2⟩ := ih (i + 1) f I1 _ (by omega) (by omega) g1
    refine ⟨I2, ?_, ?_, Fr.trans' f1 f2⟩
    · refine bdk (t1I TB34 (by omega)) ?_
      rw [(hN.1.2.2.2.1 a (by unfold nPh; omega)).1, if_neg (by omega), mw_n (by omega)]
      exact bdk e1 e2
    · show BC T (bdL M (flt _ (tPn T a - (i + 1)) (i + 1) ++ flt _ d (i + 1))) I2
      rw [bdL_app]
      exact g2
theorem x6_56 (hw : WF T) : ∀ (d r f : Nat) (I : Nat → Nat → Int) (M : MM), (r : Int) + d = T 2 → d < f → BC T M I →
    ∃ I', D_X6_bindAll_56 f 254 (r : Nat) (st g n c I W p) = some (st g n c I' W p) ∧ BC T (bdL M (flt (prsR T) d r)) I' ∧ Fr PM I I' := by
  have hn := hw.1
  have hn' := hn
  unfold WFn at hn'
  intro d
  induction d with
  | zero =>
    intro r f I M hj hf hN
    obtain ⟨f, rfl⟩ : ∃ g, f = g + 1 := ⟨f - 1, by omega⟩
    refine ⟨I, bdk t6R4 (bdk (t5I TB34) ?_), hN, Fr.rfl'⟩
    rw [hN.1.1.2.2.2.2.2]
    exact if_pos (by omega)
  | succ d ih =>
    intro r f I M hj hf hN
    obtain ⟨f, rfl⟩ : ∃ g, f = g + 1 := ⟨f - 1, by omega⟩
    have hr2 : r < nRu T := by unfold nRu; omega
    have r24 : r < 24 := by omega
    have wr := hw.2.2.2.2 r (by omega)
    have wp := hw.2.2.2.1
    have v := hN.1.2.2.2.2 r hr2
    have toI : ∀ x : Int, 0 ≤ x → x = ((x.toNat : Nat) : Int) := fun x hx => by omega
    have rd : ∀ w, w < 5 → gI (st g n c I W p) (34 + 50 + r) 3 w = some (tRu T r w) := fun w hw2 => (t3I TB34 r24).trans (congrArg some (v w hw2))
    have fin : ∀ {I1 : Nat → Nat → Int} {l : List Op}, l = prsR T r → BC T (bdL M l) I1 → Fr PM I I1 → ∃ I', D_X6_bindAll_218 (D_X6_bindAll_56 f) 254 (r : Int) (st g n c I1 W p) = some (st g n c I' W p) ∧ BC T (bdL M (flt (prsR T) (d + 1) r)) I' ∧ Fr PM I I' := by
      intro I1 l hl h1 h2
      obtain ⟨I2, e2, g2, f2⟩ := ih (r + 1) f I1 _ (by omega) (by omega) h1
      refine ⟨I2, ?_, ?_, Fr.trans' h2 f2⟩
      · unfold D_X6_bindAll_218
        rw [mw_n (by omega)]
        exact e2
      · show BC T (bdL M (prsR T r ++ flt (prsR T) d (r + 1))) I2
        rw [bdL_app, ← hl]
        exact g2
    have st0 : ∀ {R : Option mS}, (gI (st g n c I W p) (34 + 50 + r) 3 0).bind (fun v6 => if v6 = 0 then
        (gI (st g n c I W p) (34 + 50 + r) 3 1).bind fun v7 =>
        (gI (st g n c I W p) (34 + 50 + r) 3 2).bind fun v8 =>
        (gI (st g n c I W p) (34 + 50 + r) 3 3).bind fun v9 =>
        (gI (st g n c I W p) (34 + 50 + r) 3 4).bind fun v10 =>
        (tgO (st g n c I W p) 254 6).bind fun _ =>
        (D_X6_bind 254 v7 v8 v9 v10 (st g n c I W p)).bind fun r11 =>
        D_X6_bindAll_218 (D_X6_bindAll_56 f) 254 (r : Int) r11
      else
      if v6 = 1 then
        (gI (st g n c I W p) (34 + 50 + r) 3 1).bind fun v12 =>
        (gI (st g n c I W p) (34 + 50 + r) 3 2).bind fun v13 =>
        (tgO (st g n c I W p) 254 6).bind fun _ =>
        (D_X6_bind 254 v12 v13 0 0 (st g n c I W p)).bind fun r14 =>
        D_X6_bindAll_218 (D_X6_bindAll_56 f) 254 (r : Int) r14
      else
      if v6 = 2 then
        D_X6_bindAll_218 (D_X6_bindAll_56 f) 254 (r : Int) (st g n c I W p)
      else
      if v6 = 3 then
        D_X6_bindAll_218 (D_X6_bindAll_56 f) 254 (r : Int) (st g n c I W p)
      else
      if v6 = 4 then
        (gR (st g n c I W p) 254 6 4).bind fun v15 =>
        (gR (st g n c I W p) v15 5 9).bind fun v16 =>
        (gI (st g n c I W p) (34 + 50 + r) 3 1).bind fun v17 =>
        (lR (st g n c I W p) v16 v17).bind fun v18 =>
        (gR (st g n c I W p) 254 6 4).bind fun v19 =>
        (gR (st g n c I W p) v19 5 9).bind fun v20 =>
        (gI (st g n c I W p) (34 + 50 + r) 3 2).bind fun v21 =>
        (lR (st g n c I W p) v20 v21).bind fun v22 =>
        (gI (st g n c I W p) (34 + 50 + r) 3 3).bind fun v23 =>
        (tgO (st g n c I W p) 254 6).bind fun _ =>
        (D_X6_bindInOrder 254 v18 v22 v23 (st g n c I W p)).bind fun r24 =>
        D_X6_bindAll_218 (D_X6_bindAll_56 f) 254 (r : Int) r24
      else
      if v6 = 5 then
        (gR (st g n c I W p) 254 6 4).bind fun v25 =>
        (gR (st g n c I W p) v25 5 9).bind fun v26 =>
        (gI (st g n c I W p) (34 + 50 + r) 3 1).bind fun v27 =>
        (lR (st g n c I W p) v26 v27).bind fun v28 =>
        (gI (st g n c I W p) (34 + 50 + r) 3 3).bind fun v29 =>
        (tgO (st g n c I W p) 254 6).bind fun _ =>
        (D_X6_bindTogether 254 v28 v29 (st g n c I W p)).bind fun r30 =>
        D_X6_bindAll_218 (D_X6_bindAll_56 f) 254 (r : Int) r30
      else
        D_X6_bindAll_218 (D_X6_bindAll_56 f) 254 (r : Int) (st g n c I W p)) = R → D_X6_bindAll_56 (f + 1) 254 (r : Nat) (st g n c I W p) = R := by
      intro R hR
      refine bdk t6R4 (bdk (t5I TB34) ?_)
      rw [hN.1.1.2.2.2.2.2, if_neg (by omega)]
      refine bdk t6R4 (bdk (t5R10 TB34) (bdk (t5A5 TB34 (by omega) (by omega)) ?_))
      exact hR
    rcases wr with ⟨k0, ⟨a0, a1⟩, ⟨b0, b1⟩, hab, l0, l1, l2⟩ | ⟨k0, ⟨a0, a1⟩, ⟨b0, b1⟩, hab, l0, l1⟩ | ⟨k0, ⟨a0, a1⟩, -, ⟨l0, l1⟩, -⟩ | ⟨k0, ⟨a0, a1⟩, ⟨b0, b1⟩, hab, ⟨l0, l1⟩, -⟩ | ⟨k0, ⟨a0, a1⟩, -, ⟨l0, l1⟩, -⟩
    · obtain ⟨I1, e1, g1, r1⟩ := x6_bindB (n := n) (c := c) (W := W) (p := p) (g := g) (a := (tRu T r 1).toNat) (b := (tRu T r 2).toNat) (l := tRu T r 3) (u := tRu T r 4) hn (by unfold nSa; omega) (by unfold nSa; omega) (by omega) (by omega) hN
      rw [← toI _ a0, ← toI _ b0] at e1
      obtain ⟨I2, e2, g2, f2⟩ := fin (by unfold prsR; rw [if_pos k0]) g1 r1
      refine ⟨I2, st0 ?_, g2, f2⟩
      refine bdk (rd 0 (by decide)) ?_
      rw [if_pos k0]
      exact bdk (rd 1 (by decide)) (bdk (rd 2 (by decide)) (bdk (rd 3 (by decide)) (bdk (rd 4 (by decide)) (bdk t6T (bdk e1 e2)))))
    · obtain ⟨I1, e1, g1, r1⟩ := x6_bindB (n := n) (c := c) (W := W) (p := p) (g := g) (a := (tRu T r 1).toNat) (b := (tRu T r 2).toNat) (l := 0) (u := 0) hn (by unfold nSa; omega) (by unfold nSa; omega) (by omega) (by omega) hN
      rw [← toI _ a0, ← toI _ b0] at e1
      obtain ⟨I2, e2, g2, f2⟩ := fin (by unfold prsR; rw [if_neg (by omega), if_pos k0]) g1 r1
      refine ⟨I2, st0 ?_, g2, f2⟩
      refine bdk (rd 0 (by decide)) ?_
      rw [if_neg (by omega), if_pos k0]
      exact bdk (rd 1 (by decide)) (bdk (rd 2 (by decide)) (bdk t6T (bdk e1 e2)))
    · rcases k0 with k0 | k0
      · obtain ⟨I2, e2, g2, f2⟩ := fin (l := []) (by unfold prsR; rw [if_neg (by omega), if_neg (by omega), if_pos k0]) hN Fr.rfl'
        refine ⟨I2, st0 ?_, g2, f2⟩
        refine bdk (rd 0 (by decide)) ?_
        rw [if_neg (by omega), if_neg (by omega), if_pos k0]
        exact e2
      · obtain ⟨I2, e2, g2, f2⟩ := fin (l := []) (by unfold prsR; rw [if_neg (by omega), if_neg (by omega), if_neg (by omega), if_pos k0]) hN Fr.rfl'
        refine ⟨I2, st0 ?_, g2, f2⟩
        refine bdk (rd 0 (by decide)) ?_
        rw [if_neg (by omega), if_neg (by omega), if_neg (by omega), if_pos k0]
        exact e2
    · have wa := wp (tRu T r 1).toNat (by omega)
      have s1 := wa.1
      obtain ⟨I1, e1, g1, r1⟩ := x6_o3 (n := n) (c := c) (W := W) (p := p) (g := g) (a := (tRu T r 1).toNat) (o := (tRu T r 2).toNat) hw (by omega) (by omega) ⟨l0, l1⟩ (tPn T (tRu T r 1).toNat) 0 mFU I M (by unfold tPn; omega) (by unfold tPn mFU; omega) hN
      obtain ⟨I2, e2, g2, f2⟩ := fin (by unfold prsR; rw [if_neg (by omega), if_neg (by omega), if_neg (by omega), if_neg (by omega), if_pos k0]) g1 r1
      refine ⟨I2, st0 ?_, g2, f2⟩
      refine bdk (rd 0 (by decide)) ?_
      rw [if_neg (by omega), if_neg (by omega), if_neg (by omega), if_neg (by omega), if_pos k0]
      exact bdk t6R4 (bdk (t5R9 TB34) (bdk (rd 1 (by decide)) (bdk (t5A4 TB34 a0 (by omega)) (bdk t6R4 (bdk (t5R9 TB34) (bdk (rd 2 (by decide)) (bdk (t5A4 TB34 b0 (by omega)) (bdk (rd 3 (by decide)) (bdk t6T (bdk (bdk e1 rfl) e2))))))))))
    · have wa := wp (tRu T r 1).toNat (by omega)
      have s1 := wa.1
      obtain ⟨I1, e1, g1, r1⟩ := x6_t2 (n := n) (c := c) (W := W) (p := p) (g := g) (a := (tRu T r 1).toNat) hw (by omega) ⟨l0, l1⟩ (tPn T (tRu T r 1).toNat) 0 mFU I M (by unfold tPn; omega) (by unfold tPn mFU; omega) hN
      obtain ⟨I2, e2, g2, f2⟩ := fin (by unfold prsR; rw [if_neg (by omega), if_neg (by omega), if_neg (by omega), if_neg (by omega), if_neg (by omega)]) g1 r1
      refine ⟨I2, st0 ?_, g2, f2⟩
      refine bdk (rd 0 (by decide)) ?_
      rw [if_neg (by omega), if_neg (by omega), if_neg (by omega), if_neg (by omega), if_neg (by omega), if_pos k0]
      exact bdk t6R4 (bdk (t5R9 TB34) (bdk (rd 1 (by decide)) (bdk (t5A4 TB34 a0 (by omega)) (bdk (rd 3 (by decide)) (bdk t6T (bdk (bdk e1 rfl) e2))))))
theorem x6_ba15 {s : Nat} (hs : s < 12) : ∀ (d j f : Nat) (I : Nat → Nat → Int), j + d = s → d < f → (∀ h, h < j → I (257 + s) h = -999 ∧ I (270 + s) h = 999) →
    ∃ I', D_X6_bindAll_15 f 254 (s : Int) (j : Nat) (st g n c I W p) = some (st g n c I' W p) ∧ (∀ h, h < s → I' (257 + s) h = -999 ∧ I' (270 + s) h = 999) ∧ Fr (fun x _ => x = 257 + s ∨ x = 270 + s) I I' := by
  intro d
  induction d with
  | zero =>
    intro j f I hj hf h0
    obtain ⟨f, rfl⟩ : ∃ g, f = g + 1 := ⟨f - 1, by omega⟩
    have e : j = s := by omega
    subst e
    exact ⟨I, if_pos (by omega), h0, Fr.rfl'⟩
  | succ d ih =>
    intro j f I hj hf h0
    obtain ⟨f, rfl⟩ : ∃ g, f = g + 1 := ⟨f - 1, by omega⟩
    obtain ⟨I', e, h1, h2⟩ := ih (j + 1) f (u2 (u2 I (257 + s) j (-999)) (270 + s) j 999) (by omega) (by omega) (fun h hh => by
      by_cases q : h = j
      · refine ⟨?_, ?_⟩
        · rw [u2_def, if_neg (by omega), u2_def, if_pos ⟨rfl, q⟩]
        · rw [u2_def, if_pos ⟨rfl, q⟩]
      · have := h0 h (by omega)
        refine ⟨?_, ?_⟩
        · rw [u2_def, if_neg (by omega), u2_def, if_neg (by omega)]; exact this.1
        · rw [u2_def, if_neg (by omega), u2_def, if_neg (by omega)]; exact this.2)
    refine ⟨I', ?_, h1, Fr.trans' (fun x k q => ?_) h2⟩
    · show (if (s : Int) ≤ (j : Nat) then _ else _) = _
      rw [if_neg (by omega)]
      refine bdk t6R6 (bdk (t6A6 (by omega) (by omega)) ?_)
      rw [toN]
      refine bdk (t6S6 hs (by omega) (by omega)) (bdk t6R7 (bdk (t6A7 (by omega) (by omega)) ?_))
      rw [toN]
      refine bdk (t6S7 hs (by omega) (by omega)) ?_
      rw [toN, mw_n (by omega)]
      exact e
    · rw [u2_def, if_neg (by omega), u2_def, if_neg (by omega)]
theorem x6_ba2 (hw : WFn T) : ∀ (d s f : Nat) (I : Nat → Nat → Int), (s : Int) + d = T 304 → d < f → ClsT 34 T I → MatC s bd0 I →
    ∃ I', D_X6_bindAll_2 f 254 (s : Nat) (st g n c I W p) = some (st g n c I' W p) ∧ BC T bd0 I' ∧ Fr PM I I' := by
  have hw' := hw
  unfold WFn at hw'
  intro d
  induction d with
  | zero =>
    intro s f I hj hf hT hM
    obtain ⟨f, rfl⟩ : ∃ g, f = g + 1 := ⟨f - 1, by omega⟩
    refine ⟨I, bdk t6R4 (bdk (t5I TB34) ?_), ⟨hT, ?_⟩, Fr.rfl'⟩
    · rw [hT.1.2.2.2.1]
      exact if_pos (by omega)
    · rw [show nSa T = s by unfold nSa; omega]
      exact hM
  | succ d ih =>
    intro s f I hj hf hT hM
    obtain ⟨f, rfl⟩ : ∃ g, f = g + 1 := ⟨f - 1, by omega⟩
    obtain ⟨I1, e1, h1, f1⟩ := x6_ba15 (g := g) (n := n) (c := c) (W := W) (p := p) (s := s) (by omega) s 0 mFU I (by omega) (by unfold mFU; omega) (fun h hh => by omega)
    have f1' : Fr PM I I1 := f1.mono (fun x k q => by unfold PM; omega)
    obtain ⟨I2, e2, h2, f2⟩ := ih (s + 1) f I1 (by omega) (by omega) (hT.fr hw f1' PM_T) (fun t ht h hh => by
      by_cases q : t = s
      · subst q; exact h1 h hh
      · have := hM t (by omega) h hh
        rw [f1 _ _ (by omega), f1 _ _ (by omega)]
        exact this)
    refine ⟨I2, ?_, h2, Fr.trans' f1' f2⟩
    refine bdk t6R4 (bdk (t5I TB34) ?_)
    rw [hT.1.2.2.2.1, if_neg (by omega)]
    refine bdk e1 ?_
    rw [mw_n (by omega)]
    exact e2
theorem x6_bindAll (hw : WF T) (hT : ClsT 34 T I) : ∃ I', D_X6_bindAll 254 (st g n c I W p) = some (st g n c I' W p) ∧ BC T (bdA T) I' ∧ Fr PM I I' := by
  have hw' := hw.1
  unfold WFn at hw'
  obtain ⟨I1, e1, h1, f1⟩ := x6_ba2 (g := g) (n := n) (c := c) (W := W) (p := p) hw.1 (nSa T) 0 mFU I (by unfold nSa; omega) (by unfold nSa mFU; omega) hT (fun s hs => by omega)
  obtain ⟨I2, e2, h2, f2⟩ := x6_56 (g := g) (n := n) (c := c) (W := W) (p := p) hw (nRu T) 0 mFU I1 bd0 (by unfold nRu; omega) (by unfold nRu mFU; omega) h1
  exact ⟨I2, bdk e1 (bdk e2 rfl), h2, Fr.trans' f1 f2⟩
end TB
