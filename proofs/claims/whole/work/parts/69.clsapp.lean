/-! THE PURE PART: the desk's rules and runs -/
/-- what is told, as the desk holds it at a place -/
def ClsT (b : Nat) (T : Td) (I : Nat → Nat → Int) : Prop :=
  (I b 0 = T 0 ∧ I b 1 = T 1 ∧ I b 2 = T 303 ∧ I b 3 = T 304 ∧ I b 4 = T 305 ∧ I b 5 = T 2) ∧
  (∀ k, k < nKn T → I (b + 1) k = T (310 + k) ∧ I (b + 2) k = T (330 + k)) ∧
  (∀ s, s < nSa T → (I (b + 6 + 3 * s) 0 = tSa T s 0 ∧ I (b + 6 + 3 * s) 1 = tSa T s 1 ∧ I (b + 6 + 3 * s) 2 = tSa T s 2) ∧ (tSa T s 0 = 1 → ∀ k : Nat, (k : Int) < tSa T s 2 → I (b + 6 + 3 * s + 1) k = tSa T s (3 + k) ∧ I (b + 6 + 3 * s + 2) k = tSa T s (9 + k))) ∧
  (∀ q, q < nPh T → I (b + 42 + 2 * q) 0 = T (350 + q) ∧ ∀ k : Nat, (k : Int) < T (350 + q) → I (b + 42 + 2 * q + 1) k = T (360 + 6 * q + k)) ∧
  (∀ r, r < nRu T → ∀ w, w < 5 → I (b + 50 + r) w = tRu T r w)
theorem ClsT.fr {b : Nat} {T : Td} {I I' : Nat → Nat → Int} {P : Nat → Nat → Prop} (hw : WFn T) (h : ClsT b T I) (hf : Fr P I I') (hp : ∀ a k, P a k → a < b ∨ b + 74 ≤ a) : ClsT b T I' := by
  unfold WFn at hw
  have e : ∀ a k, b ≤ a → a < b + 74 → I' a k = I a k := fun a k h1 h2 => hf a k (fun q => by have := hp a k q; omega)
  obtain ⟨h1, h2, h3, h4, h5⟩ := h
  refine ⟨?_, fun k hk => ?_, fun s hs => ?_, fun q hq => ?_, fun r hr w hw2 => ?_⟩
  · rw [e _ _ (by omega) (by omega), e _ _ (by omega) (by omega), e _ _ (by omega) (by omega), e _ _ (by omega) (by omega), e _ _ (by omega) (by omega), e _ _ (by omega) (by omega)]
    exact h1
  · rw [e _ _ (by omega) (by omega), e _ _ (by omega) (by omega)]
    exact h2 k hk
  · have : s < 12 := by unfold nSa at hs; omega
    rw [e _ _ (by omega) (by omega), e _ _ (by omega) (by omega), e _ _ (by omega) (by omega)]
    refine ⟨(h3 s hs).1, fun hr k hk => ?_⟩
    rw [e _ _ (by omega) (by omega), e _ _ (by omega) (by omega)]
    exact (h3 s hs).2 hr k hk
  · have : q < 4 := by unfold nPh at hq; omega
    rw [e _ _ (by omega) (by omega)]
    refine ⟨(h4 q hq).1, fun k hk => ?_⟩
    rw [e _ _ (by omega) (by omega)]
    exact (h4 q hq).2 k hk
  · have : r < 24 := by unfold nRu at hr; omega
    rw [e _ _ (by omega) (by omega)]
    exact h5 r hr w hw2
def RNC (b : Nat) (T : Td) (N : NS) (I : Nat → Nat → Int) (W : Nat → Nat → BitVec 64) : Prop := ClsT 34 T I ∧ NarC b (nSa T) (nRu T) N I W ∧ Ninv (nSa T) N
theorem PC_T {b : Nat} (h : NB b) : ∀ a k, PC b a k → a < 34 ∨ 34 + 74 ≤ a := fun a k q => by rcases h with rfl | rfl <;> unfold PC at q <;> omega
section CA
variable {g : Bool} {n : Nat} {c : Nat × Nat × Nat × Nat} {I : Nat → Nat → Int} {W : Nat → Nat → BitVec 64} {p : Nat → Nat} {b : Nat} {N : NS} {T : Td}
theorem neg2 (x : Int) : - -x = x := Int.neg_neg x
theorem x0_both {r a o : Nat} {l u : Int} (h : NB b) (hw : WF T) (ha : a < nSa T) (ho : o < nSa T) (hr : r < nRu T) (hlu : l ≤ u) (hl : -1000 ≤ l ∧ l ≤ 1000) (hu : -1000 ≤ u ∧ u ≤ 1000) (hN : RNC b T N I W) (h13 : I b 13 = (r : Int)) :
    ∃ I' W', ((D_X0_fit b (o : Int) (a : Int) l u (st g n c I W p)).bind fun r2 => (tgO r2 b 0).bind fun _ => D_X0_fit b (a : Int) (o : Int) (mw (-u)) (mw (-l)) r2) = some (st g n c I' W' p) ∧ RNC b T (doL r (both a o l u) N) I' W' ∧ Fr (PC b) I I' ∧ (∀ x, ¬ PW b x → W' x = W x) ∧ I' b 13 = (r : Int) := by
  have hn := hw.1
  have hn' := hn
  unfold WFn at hn'
  have hm : nSa T ≤ 12 := by unfold nSa; omega
  have hnr : nRu T ≤ 24 := by unfold nRu; omega
  obtain ⟨h1, h2, h3⟩ := hN
  obtain ⟨I1, W1, e1, g1, f1, w1⟩ := x0_fit (n := n) (c := c) (p := p) (g := g) (l := l) (u := u) h hm ho ha hr hnr hlu hl hu h2 h3 h13
  have v1 : Ninv (nSa T) (doO r (o, a, -u, -l) N) := h3.cut ho
  have k1 : I1 b 13 = (r : Int) := by rw [f1 _ _ (by unfold PC; omega)]; exact h13
  obtain ⟨I2, W2, e2, g2, f2, w2⟩ := x0_fit (n := n) (c := c) (p := p) (g := g) (l := -u) (u := -l) h hm ha ho hr hnr (by omega) (by omega) (by omega) g1 v1 k1
  rw [neg2, neg2] at g2
  have fr := Fr.trans' f1 f2
  refine ⟨I2, W2, ?_, ⟨h1.fr hn fr (PC_T h), g2, ?_⟩, fr, fun x hx => by rw [w2 x hx, w1 x hx], by rw [fr _ _ (by unfold PC; omega)]; exact h13⟩
  · rw [mw_of (by omega) (by omega), mw_of (by omega) (by omega)]
    exact bdk e1 (bdk (n0T h) e2)
  · exact v1.cut (s := a) ha
theorem x0_meet {r a o : Nat} {l u : Int} (h : NB b) (hw : WF T) (ha : a < nSa T) (ho : o < nSa T) (hr : r < nRu T) (hlu : l ≤ u) (hl : -1000 ≤ l ∧ l ≤ 1000) (hu : -1000 ≤ u ∧ u ≤ 1000) (hN : RNC b T N I W) (h13 : I b 13 = (r : Int)) :
    ∃ I' W', D_X0_meet b (a : Int) (o : Int) l u (st g n c I W p) = some (st g n c I' W' p) ∧ RNC b T (doL r (if a = o then (if 0 < l then [(a, 99, 1000, -1)] else []) else both a o l u) N) I' W' ∧ Fr (PC b) I I' ∧ (∀ x, ¬ PW b x → W' x = W x) ∧ I' b 13 = (r : Int) := by
  have hn := hw.1
  have hn' := hn
  unfold WFn at hn'
  have hm : nSa T ≤ 12 := by unfold nSa; omega
  have hnr : nRu T ≤ 24 := by unfold nRu; omega
  unfold D_X0_meet
  by_cases q : a = o
  · subst q
    rw [if_pos rfl, if_pos rfl]
    by_cases z : 0 < l
    · rw [if_pos z, if_neg (by omega)]
      obtain ⟨I1, W1, e1, g1, f1, w1⟩ := x0_limit (n := n) (c := c) (I := I) (W := W) (p := p) (g := g) (r := r) (s := a) (lo := 1000) (hi := 999) (keep := keepO (nS N) (a, 99, 1000, -1)) h hm ha hr hnr hN.2.1 hN.2.2 h13 ⟨by decide, by decide⟩ ⟨by decide, by decide⟩ (fun y hy => by
        show (if (99 : Nat) = 99 then _ else _) = _
        rw [if_pos rfl, decide_eq_decide]
        show ((1000 : Int) ≤ y ∧ (y : Int) ≤ -1) ↔ _
        omega)
      refine ⟨I1, W1, bdk (n0T h) (bdk e1 rfl), ⟨hN.1.fr hn f1 (PC_T h), g1, hN.2.2.cut (s := a) ha⟩, f1, w1, by rw [f1 _ _ (by unfold PC; omega)]; exact h13⟩
    · rw [if_neg z, if_pos (by omega)]
      exact ⟨I, W, rfl, hN, Fr.rfl', fun _ _ => rfl, h13⟩
  · rw [if_neg q, if_neg (by omega)]
    obtain ⟨I1, W1, e1, r1⟩ := x0_both (n := n) (c := c) (p := p) (g := g) h hw ha ho hr hlu hl hu hN h13
    refine ⟨I1, W1, ?_, r1⟩
    refine bdk (n0T h) ?_
    obtain ⟨x1, y1, y2⟩ := Option.bind_eq_some_iff.1 e1
    obtain ⟨x2, y3, y4⟩ := Option.bind_eq_some_iff.1 y2
    exact bdk y1 (bdk y3 (bdk y4 rfl))
theorem x0_155 {r a o i : Nat} {k : Int} (h : NB b) (hw : WF T) (hr : r < nRu T) (ha : (a : Int) < T 305) (ho : (o : Int) < T 305) (hk : 0 ≤ k ∧ k ≤ 999) (hk3 : tRu T r 3 = k) (hi : (i : Int) < T (350 + a)) : ∀ (d j f : Nat) (I : Nat → Nat → Int) (W : Nat → Nat → BitVec 64) (N : NS), (j : Int) + d = T (350 + o) → d < f → RNC b T N I W → I b 13 = (r : Int) →
    ∃ I' W', D_X0_apply_155 f b (34 + 50 + r) (34 + 42 + 2 * a) (34 + 42 + 2 * o) (i : Int) (j : Nat) (st g n c I W p) = some (st g n c I' W' p) ∧ RNC b T (doL r (flt (fun j => ordO (tPm T a i) (tPm T o j) k) d j) N) I' W' ∧ Fr (PC b) I I' ∧ (∀ x, ¬ PW b x → W' x = W x) ∧ I' b 13 = (r : Int) := by
  have hn := hw.1
  have hn' := hn
  unfold WFn at hn'
  have wa := hw.2.2.2.1 a ha
  have wo := hw.2.2.2.1 o ho
  have r24 : r < 24 := by unfold nRu at hr; omega
  intro d
  induction d with
  | zero =>
    intro j f I W N hj hf hN h13
    obtain ⟨f, rfl⟩ : ∃ g, f = g + 1 := ⟨f - 1, by omega⟩
    refine ⟨I, W, bdk (t1I TB34 (by omega)) ?_, hN, Fr.rfl', fun _ _ => rfl, h13⟩
    rw [(hN.1.2.2.2.1 o (by unfold nPh; omega)).1]
    exact if_pos (by omega)
  | succ d ih =>
    intro j f I W N hj hf hN h13
    obtain ⟨f, rfl⟩ : ∃ g, f = g + 1 := ⟨f - 1, by omega⟩
    have m1 := wa.2.1 i hi
    have m2 := wo.2.1 j (by omega)
    have s1 := wa.1
    have s2 := wo.1
    have p1 : T (360 + 6 * a + i) = ((tPm T a i : Nat) : Int) := by unfold tPm; omega
    have p2 : T (360 + 6 * o + j) = ((tPm T o j : Nat) : Int) := by unfold tPm; omega
    obtain ⟨I1, W1, e1, g1, f1, w1, k1⟩ := x0_meet (n := n) (c := c) (p := p) (g := g) (a := tPm T a i) (o := tPm T o j) (l := k) (u := 999) h hw (by unfold tPm nSa; omega) (by unfold tPm nSa; omega) hr (by omega) (by omega) (by decide) hN h13
    obtain ⟨I2, W2, e2, g2, f2, w2, k2⟩ := ih (j + 1) f I1 W1 _ (by omega) (by omega) g1 k1
    refine ⟨I2, W2, ?_, ?_, Fr.trans' f1 f2, fun x hx => by rw [w2 x hx, w1 x hx], k2⟩
    · refine bdk (t1I TB34 (by omega)) ?_
      rw [(hN.1.2.2.2.1 o (by unfold nPh; omega)).1, if_neg (by omega)]
      refine bdk (t1R1 TB34 (by omega)) (bdk (t1L1 TB34 (by omega) (by omega) (by omega)) (bdk (t1R1 TB34 (by omega)) (bdk (t1L1 TB34 (by omega) (by omega) (by omega)) (bdk (t3I TB34 r24) (bdk (n0T h) ?_)))))
      rw [toN, toN, (hN.1.2.2.2.1 a (by unfold nPh; omega)).2 i hi, (hN.1.2.2.2.1 o (by unfold nPh; omega)).2 j (by omega), hN.1.2.2.2.2 r hr 3 (by decide), p1, p2, hk3]
      refine bdk e1 ?_
      rw [mw_n (by omega)]
      exact e2
    · show RNC b T (doL r (ordO (tPm T a i) (tPm T o j) k ++ flt _ d (j + 1)) N) I2 W2
      rw [doL_app]
      exact g2
theorem x0_143 {r a o : Nat} {k : Int} (h : NB b) (hw : WF T) (hr : r < nRu T) (ha : (a : Int) < T 305) (ho : (o : Int) < T 305) (hk : 0 ≤ k ∧ k ≤ 999) (hk3 : tRu T r 3 = k) : ∀ (d i f : Nat) (I : Nat → Nat → Int) (W : Nat → Nat → BitVec 64) (N : NS), (i : Int) + d = T (350 + a) → d < f → RNC b T N I W → I b 13 = (r : Int) →
    ∃ I' W', D_X0_apply_143 f b (34 + 50 + r) (34 + 42 + 2 * a) (34 + 42 + 2 * o) (i : Nat) (st g n c I W p) = some (st g n c I' W' p) ∧ RNC b T (doL r (flt (fun i => flt (fun j => ordO (tPm T a i) (tPm T o j) k) (tPn T o) 0) d i) N) I' W' ∧ Fr (PC b) I I' ∧ (∀ x, ¬ PW b x → W' x = W x) ∧ I' b 13 = (r : Int) := by
  have hn := hw.1
  have hn' := hn
  unfold WFn at hn'
  have wa := hw.2.2.2.1 a ha
  have wo := hw.2.2.2.1 o ho
  intro d
  induction d with
  | zero =>
    intro i f I W N hj hf hN h13
    obtain ⟨f, rfl⟩ : ∃ g, f = g + 1 := ⟨f - 1, by omega⟩
    refine ⟨I, W, bdk (t1I TB34 (by omega)) ?_, hN, Fr.rfl', fun _ _ => rfl, h13⟩
    rw [(hN.1.2.2.2.1 a (by unfold nPh; omega)).1]
    exact if_pos (by omega)
  | succ d ih =>
    intro i f I W N hj hf hN h13
    obtain ⟨f, rfl⟩ : ∃ g, f = g + 1 := ⟨f - 1, by omega⟩
    have s1 := wa.1
    have s2 := wo.1
    obtain ⟨I1, W1, e1, g1, f1, w1, k1⟩ := x0_155 (n := n) (c := c) (p := p) (g := g) (i := i) h hw hr ha ho hk hk3 (by omega) (tPn T o) 0 mFU I W N (by unfold tPn; omega) (by unfold tPn mFU; omega) hN h13
    obtain ⟨I2, W2, e2, g2, f2, w2, k2⟩ := ih (i + 1) f I1 W1 _ (by omega) (by omega) g1 k1
    refine ⟨I2, W2, ?_, ?_, Fr.trans' f1 f2, fun x hx => by rw [w2 x hx, w1 x hx], k2⟩
    · refine bdk (t1I TB34 (by omega)) ?_
      rw [(hN.1.2.2.2.1 a (by unfold nPh; omega)).1, if_neg (by omega)]
      refine bdk e1 ?_
      rw [mw_n (by omega)]
      exact e2
    · show RNC b T (doL r (flt _ (tPn T o) 0 ++ flt _ d (i + 1)) N) I2 W2
      rw [doL_app]
      exact g2
theorem x0_237 {r a i : Nat} {k : Int} (h : NB b) (hw : WF T) (hr : r < nRu T) (ha : (a : Int) < T 305) (hk : 0 ≤ k ∧ k ≤ 999) (hk3 : tRu T r 3 = k) : ∀ (d j f : Nat) (I : Nat → Nat → Int) (W : Nat → Nat → BitVec 64) (N : NS), i < j → (j : Int) + d = T (350 + a) → d < f → RNC b T N I W → I b 13 = (r : Int) →
    ∃ I' W', D_X0_apply_237 f b (34 + 50 + r) (34 + 42 + 2 * a) (i : Int) (j : Nat) (st g n c I W p) = some (st g n c I' W' p) ∧ RNC b T (doL r (flt (fun j => both (tPm T a i) (tPm T a j) (-k) k) d j) N) I' W' ∧ Fr (PC b) I I' ∧ (∀ x, ¬ PW b x → W' x = W x) ∧ I' b 13 = (r : Int) := by
  have hn := hw.1
  have hn' := hn
  unfold WFn at hn'
  have wa := hw.2.2.2.1 a ha
  have r24 : r < 24 := by unfold nRu at hr; omega
  intro d
  induction d with
  | zero =>
    intro j f I W N hij hj hf hN h13
    obtain ⟨f, rfl⟩ : ∃ g, f = g + 1 := ⟨f - 1, by omega⟩
    refine ⟨I, W, bdk (t1I TB34 (by omega)) ?_, hN, Fr.rfl', fun _ _ => rfl, h13⟩
    rw [(hN.1.2.2.2.1 a (by unfold nPh; omega)).1]
    exact if_pos (by omega)
  | succ d ih =>
    intro j f I W N hij hj hf hN h13
    obtain ⟨f, rfl⟩ : ∃ g, f = g + 1 := ⟨f - 1, by omega⟩
    have m1 := wa.2.1 i (by omega)
    have m2 := wa.2.1 j (by omega)
    have s1 := wa.1
    have dd := wa.2.2 i j hij (by omega)
    have p1 : T (360 + 6 * a + i) = ((tPm T a i : Nat) : Int) := by unfold tPm; omega
    have p2 : T (360 + 6 * a + j) = ((tPm T a j : Nat) : Int) := by unfold tPm; omega
    obtain ⟨I1, W1, e1, g1, f1, w1, k1⟩ := x0_meet (n := n) (c := c) (p := p) (g := g) (a := tPm T a i) (o := tPm T a j) (l := -k) (u := k) h hw (by unfold tPm nSa; omega) (by unfold tPm nSa; omega) hr (by omega) (by omega) (by omega) hN h13
    rw [if_neg (by omega : ¬ tPm T a i = tPm T a j)] at g1
    obtain ⟨I2, W2, e2, g2, f2, w2, k2⟩ := ih (j + 1) f I1 W1 _ (by omega) (by omega) (by omega) g1 k1
    refine ⟨I2, W2, ?_, ?_, Fr.trans' f1 f2, fun x hx => by rw [w2 x hx, w1 x hx], k2⟩
    · refine bdk (t1I TB34 (by omega)) ?_
      rw [(hN.1.2.2.2.1 a (by unfold nPh; omega)).1, if_neg (by omega)]
      refine bdk (t1R1 TB34 (by omega)) (bdk (t1L1 TB34 (by omega) (by omega) (by omega)) (bdk (t1R1 TB34 (by omega)) (bdk (t1L1 TB34 (by omega) (by omega) (by omega)) (bdk (t3I TB34 r24) (bdk (t3I TB34 r24) (bdk (n0T h) ?_))))))
      rw [toN, toN, (hN.1.2.2.2.1 a (by unfold nPh; omega)).2 i (by omega), (hN.1.2.2.2.1 a (by unfold nPh; omega)).2 j (by omega), hN.1.2.2.2.2 r hr 3 (by decide), p1, p2, hk3, mw_of (by omega) (by omega)]
      refine bdk e1 ?_
      rw [mw_n (by omega)]
      exact e2
    · show RNC b T (doL r (both (tPm T a i) (tPm T a j) (-k) k ++ flt _ d (j + 1)) N) I2 W2
      rw [doL_app]
      exact g2
theorem x0_221 {r a : Nat} {k : Int} (h : NB b) (hw : WF T) (hr : r < nRu T) (ha : (a : Int) < T 305) (hk : 0 ≤ k ∧ k ≤ 999) (hk3 : tRu T r 3 = k) : ∀ (d i f : Nat) (I : Nat → Nat → Int) (W : Nat → Nat → BitVec 64) (N : NS), (i : Int) + d = T (350 + a) → d < f → RNC b T N I W → I b 13 = (r : Int) →
    ∃ I' W', D_X0_apply_221 f b (34 + 50 + r) (34 + 42 + 2 * a) (i : Nat) (st g n c I W p) = some (st g n c I' W' p) ∧ RNC b T (doL r (flt (fun i => flt (fun j => both (tPm T a i) (tPm T a j) (-k) k) (tPn T a - (i + 1)) (i + 1)) d i) N) I' W' ∧ Fr (PC b) I I' ∧ (∀ x, ¬ PW b x → W' x = W x) ∧ I' b 13 = (r : Int) := by
  have hn := hw.1
  have hn' := hn
  unfold WFn at hn'
  have wa := hw.2.2.2.1 a ha
  intro d
  induction d with
  | zero =>
    intro i f I W N hj hf hN h13
    obtain ⟨f, rfl⟩ : ∃ g, f = g + 1 := ⟨f - 1, by omega⟩
    refine ⟨I, W, bdk (t1I TB34 (by omega)) ?_, hN, Fr.rfl', fun _ _ => rfl, h13⟩
    rw [(hN.1.2.2.2.1 a (by unfold nPh; omega)).1]
    exact if_pos (by omega)
  | succ d ih =>
    intro i f I W N hj hf hN h13
    obtain ⟨f, rfl⟩ : ∃ g, f = g + 1 := ⟨f - 1, by omega⟩
    have s1 := wa.1
    obtain ⟨I1, W1, e1, g1, f1, w1, k1⟩ := x0_237 (n := n) (c := c) (p := p) (g := g) (i := i) h hw hr ha hk hk3 (tPn T a - (i + 1)) (i + 1) mFU I W N (by omega) (by unfold tPn; omega) (by unfold tPn mFU; omega) hN h13
    obtain ⟨I2, W2, e2, g2, f2, w2, k2⟩ := ih (i + 1) f I1 W1 _ (by omega) (by omega) g1 k1
    refine ⟨I2, W2, ?_, ?_, Fr.trans' f1 f2, fun x hx => by rw [w2 x hx, w1 x hx], k2⟩
    · refine bdk (t1I TB34 (by omega)) ?_
      rw [(hN.1.2.2.2.1 a (by unfold nPh; omega)).1, if_neg (by omega), mw_n (by omega)]
      exact bdk e1 e2
    · show RNC b T (doL r (flt _ (tPn T a - (i + 1)) (i + 1) ++ flt _ d (i + 1)) N) I2 W2
      rw [doL_app]
      exact g2
theorem x0_apply {r : Nat} (h : NB b) (hw : WF T) (hr : (r : Int) < T 2) (hN : RNC b T N I W) (h13 : I b 13 = (r : Int)) :
    ∃ I' W', D_X0_apply b (34 + 50 + r) (st g n c I W p) = some (st g n c I' W' p) ∧ RNC b T (doL r (opsR T r) N) I' W' ∧ Fr (PC b) I I' ∧ (∀ x, ¬ PW b x → W' x = W x) ∧ I' b 13 = (r : Int) := by
  have hn := hw.1
  have hn' := hn
  unfold WFn at hn'
  have hr2 : r < nRu T := by unfold nRu; omega
  have r24 : r < 24 := by omega
  have hm : nSa T ≤ 12 := by unfold nSa; omega
  have hnr : nRu T ≤ 24 := by unfold nRu; omega
  have wr := hw.2.2.2.2 r hr
  have wp := hw.2.2.2.1
  have v := hN.1.2.2.2.2 r hr2
  have toI : ∀ x : Int, 0 ≤ x → x = ((x.toNat : Nat) : Int) := fun x hx => by omega
  have rd : ∀ w, w < 5 → gI (st g n c I W p) (34 + 50 + r) 3 w = some (tRu T r w) := fun w hw2 => (t3I TB34 r24).trans (congrArg some (v w hw2))
  unfold opsR D_X0_apply
  rcases wr with ⟨k0, ⟨a0, a1⟩, ⟨b0, b1⟩, hab, l0, l1, l2⟩ | ⟨k0, ⟨a0, a1⟩, ⟨b0, b1⟩, hab, l0, l1⟩ | ⟨k0, ⟨a0, a1⟩, -, ⟨l0, l1⟩, -⟩ | ⟨k0, ⟨a0, a1⟩, ⟨b0, b1⟩, hab, ⟨l0, l1⟩, -⟩ | ⟨k0, ⟨a0, a1⟩, -, ⟨l0, l1⟩, -⟩
  · obtain ⟨I1, W1, e1, g1, r1⟩ := x0_meet (n := n) (c := c) (p := p) (g := g) (a := (tRu T r 1).toNat) (o := (tRu T r 2).toNat) (l := tRu T r 3) (u := tRu T r 4) h hw (by unfold nSa; omega) (by unfold nSa; omega) hr2 (by omega) (by omega) (by omega) hN h13
    rw [if_neg (by omega : ¬ (tRu T r 1).toNat = (tRu T r 2).toNat)] at g1
    rw [← toI _ a0, ← toI _ b0] at e1
    refine ⟨I1, W1, bdk (rd 0 (by decide)) ?_, ?_, r1⟩
    · rw [if_pos k0]
      exact bdk (rd 1 (by decide)) (bdk (rd 2 (by decide)) (bdk (rd 3 (by decide)) (bdk (rd 4 (by decide)) (bdk (n0T h) (bdk e1 rfl)))))
    · rw [if_pos k0]; exact g1
  · obtain ⟨I1, W1, e1, g1, r1⟩ := x0_meet (n := n) (c := c) (p := p) (g := g) (a := (tRu T r 1).toNat) (o := (tRu T r 2).toNat) (l := 0) (u := 0) h hw (by unfold nSa; omega) (by unfold nSa; omega) hr2 (by omega) (by omega) (by omega) hN h13
    rw [if_neg (by omega : ¬ (tRu T r 1).toNat = (tRu T r 2).toNat)] at g1
    rw [← toI _ a0, ← toI _ b0] at e1
    refine ⟨I1, W1, bdk (rd 0 (by decide)) ?_, ?_, r1⟩
    · rw [if_neg (by omega), if_pos k0]
      exact bdk (rd 1 (by decide)) (bdk (rd 2 (by decide)) (bdk (n0T h) (bdk e1 rfl)))
    · rw [if_neg (by omega), if_pos k0]; exact g1
  · rcases k0 with k0 | k0
    · obtain ⟨I1, W1, e1, g1, f1, w1⟩ := x0_limit (n := n) (c := c) (I := I) (W := W) (p := p) (g := g) (r := r) (s := (tRu T r 1).toNat) (lo := tRu T r 3) (hi := 999) (keep := keepO (nS N) ((tRu T r 1).toNat, 99, tRu T r 3, 999)) h hm (by unfold nSa; omega) hr2 hnr hN.2.1 hN.2.2 h13 ⟨by omega, by omega⟩ ⟨by omega, by omega⟩ (fun y hy => if_pos rfl)
      rw [← toI _ a0] at e1
      refine ⟨I1, W1, bdk (rd 0 (by decide)) ?_, ?_, f1, w1, by rw [f1 _ _ (by unfold PC; omega)]; exact h13⟩
      · rw [if_neg (by omega), if_neg (by omega), if_pos k0]
        exact bdk (rd 1 (by decide)) (bdk (rd 3 (by decide)) (bdk (n0T h) (bdk e1 rfl)))
      · rw [if_neg (by omega), if_neg (by omega), if_pos k0]
        exact ⟨hN.1.fr hn f1 (PC_T h), g1, hN.2.2.cut (by unfold nSa; omega)⟩
    · obtain ⟨I1, W1, e1, g1, f1, w1⟩ := x0_limit (n := n) (c := c) (I := I) (W := W) (p := p) (g := g) (r := r) (s := (tRu T r 1).toNat) (lo := 0) (hi := tRu T r 3) (keep := keepO (nS N) ((tRu T r 1).toNat, 99, 0, tRu T r 3)) h hm (by unfold nSa; omega) hr2 hnr hN.2.1 hN.2.2 h13 ⟨by omega, by omega⟩ ⟨by omega, by omega⟩ (fun y hy => if_pos rfl)
      rw [← toI _ a0] at e1
      refine ⟨I1, W1, bdk (rd 0 (by decide)) ?_, ?_, f1, w1, by rw [f1 _ _ (by unfold PC; omega)]; exact h13⟩
      · rw [if_neg (by omega), if_neg (by omega), if_neg (by omega), if_pos k0]
        exact bdk (rd 1 (by decide)) (bdk (rd 3 (by decide)) (bdk (n0T h) (bdk e1 rfl)))
      · rw [if_neg (by omega), if_neg (by omega), if_neg (by omega), if_pos k0]
        exact ⟨hN.1.fr hn f1 (PC_T h), g1, hN.2.2.cut (by unfold nSa; omega)⟩
  · have wa := wp (tRu T r 1).toNat (by omega)
    have s1 := wa.1
    obtain ⟨I1, W1, e1, g1, r1⟩ := x0_143 (n := n) (c := c) (p := p) (g := g) (a := (tRu T r 1).toNat) (o := (tRu T r 2).toNat) h hw hr2 (by omega) (by omega) ⟨l0, l1⟩ rfl (tPn T (tRu T r 1).toNat) 0 mFU I W N (by unfold tPn; omega) (by unfold tPn mFU; omega) hN h13
    refine ⟨I1, W1, bdk (rd 0 (by decide)) ?_, ?_, r1⟩
    · rw [if_neg (by omega), if_neg (by omega), if_neg (by omega), if_neg (by omega), if_pos k0]
      exact bdk (n0R0 h) (bdk (t5R9 TB34) (bdk (rd 1 (by decide)) (bdk (t5A4 TB34 a0 (by omega)) (bdk (n0R0 h) (bdk (t5R9 TB34) (bdk (rd 2 (by decide)) (bdk (t5A4 TB34 b0 (by omega)) (bdk e1 rfl))))))))
    · rw [if_neg (by omega), if_neg (by omega), if_neg (by omega), if_neg (by omega), if_pos k0]; exact g1
  · have wa := wp (tRu T r 1).toNat (by omega)
    have s1 := wa.1
    obtain ⟨I1, W1, e1, g1, r1⟩ := x0_221 (n := n) (c := c) (p := p) (g := g) (a := (tRu T r 1).toNat) h hw hr2 (by omega) ⟨l0, l1⟩ rfl (tPn T (tRu T r 1).toNat) 0 mFU I W N (by unfold tPn; omega) (by unfold tPn mFU; omega) hN h13
    refine ⟨I1, W1, bdk (rd 0 (by decide)) ?_, ?_, r1⟩
    · rw [if_neg (by omega), if_neg (by omega), if_neg (by omega), if_neg (by omega), if_neg (by omega)]
      exact bdk (n0R0 h) (bdk (t5R9 TB34) (bdk (rd 1 (by decide)) (bdk (t5A4 TB34 a0 (by omega)) (bdk e1 rfl))))
    · rw [if_neg (by omega), if_neg (by omega), if_neg (by omega), if_neg (by omega), if_neg (by omega)]; exact g1
end CA
