/-! THE PURE PART: the reference tries -/
def PQ (x k : Nat) : Prop := x = 1242 ∨ (x = 1170 ∧ k = 52)
/-- the first spans and what was laid stay, where nothing of them is written -/
theorem RefF.fr {T : Td} {I I' : Nat → Nat → Int} {P : Nat → Nat → Prop} (h : RefF T I) (hf : Fr P I I') (hp : ∀ b k, P b k → ¬ PL b k ∧ b ≠ 1172 ∧ b ≠ 1175 ∧ b ≠ 1176 ∧ b ≠ 1177 ∧ b ≠ 1178 ∧ ¬ (b = 1170 ∧ 6 ≤ k ∧ k ≤ 8)) (hm : nSa T ≤ 12) : RefF T I' := by
  have e : ∀ b k, PL b k → I' b k = I b k := fun b k q => hf b k (fun w => (hp b k w).1 q)
  obtain ⟨h1, h2, h3⟩ := h
  refine ⟨?_, ?_, fun q1 q2 => ?_⟩
  · rw [e 1170 16 (by unfold PL; omega)]
    exact h1.imp id (fun q => ⟨q.1, fun s hs y hy => by rw [e _ _ (by unfold PL; omega)]; exact q.2 s hs y hy⟩)
  · rw [e 1170 28 (by unfold PL; omega)]; exact h2
  · rw [e 1170 16 (by unfold PL; omega)] at q1
    rw [e 1170 28 (by unfold PL; omega)] at q2
    obtain ⟨⟨k1, ⟨n1, n2, n3, n4, n5⟩, k3⟩, k4, k5⟩ := h3 q1 q2
    refine ⟨⟨k1.fr hf (fun b k q => (hp b k q).2), ⟨fun s hs y hy => ?_, fun r hr => ?_, ?_, fun q => ⟨?_, ?_⟩, ?_⟩, k3⟩, ?_, fun s hs y hy => ?_⟩
    · rw [e _ _ (by unfold PL; omega)]; exact n1 s hs y hy
    · rw [e _ _ (by unfold PL; omega)]; exact n2 r hr
    · rw [e _ _ (by unfold PL; omega)]; exact n3
    · rw [e _ _ (by unfold PL; omega)]; exact (n4 q).1
    · rw [e _ _ (by unfold PL; omega)]; exact (n4 q).2
    · rw [e _ _ (by unfold PL; omega)]; exact n5
    · rw [e _ _ (by unfold PL; omega)]; exact k4
    · rw [e _ _ (by unfold PL; omega)]; exact k5 s hs y hy
section RY
variable {n : Nat} {c : Nat × Nat × Nat × Nat} {I : Nat → Nat → Int} {W : Nat → Nat → BitVec 64} {p : Nat → Nat} {T : Td} {Y : Nat → Int}
theorem bO_bI (b : Bool) : bO (bI b) = some (bI b) := if_pos (by cases b; exact Or.inl rfl; exact Or.inr rfl)
theorem bI_dec {q : Prop} [Decidable q] : (if q then (1 : Int) else 0) = bI (decide q) := by
  unfold bI
  by_cases h : q
  · rw [if_pos h, if_pos (by rw [decide_eq_true_eq]; exact h)]
  · rw [if_neg h, if_neg (by rw [decide_eq_true_eq]; exact h)]
theorem x9_fp {a b s : Nat} {l u : Int} (ha : a < 12) (hb : b < 12) (hI : ∀ j, j ≤ s → I 1242 j = Y j) (hY : ∀ j, -1 ≤ Y j ∧ Y j ≤ 999) : D_X9_fitsPair 1170 (a : Int) (b : Int) l u (s : Int) (s : Int) (st true n c I W p) = some (bI (fitO Y s (a, b, l, u))) := by
  have at0 : a ≤ s → b ≤ s → (a = s ∨ b = s) → D_X9_fitsPair_26 1170 (a : Int) (b : Int) l u (st true n c I W p) = some (bI (fitO Y s (a, b, l, u))) := by
    intro h1 h2 h3
    have y1 := hY a
    have y2 := hY b
    unfold D_X9_fitsPair_26
    refine bdk z9R51 (bdk (z9L51 (by omega) (by omega)) (bdk z9R51 (bdk (z9L51 (by omega) (by omega)) ?_)))
    rw [toN, toN, hI b h2, hI a h1, mw_of (by omega) (by omega)]
    have e : fitO Y s (a, b, l, u) = decide (l ≤ Y b - Y a ∧ Y b - Y a ≤ u) := by
      unfold fitO
      exact if_neg (by show ¬ (s < a ∨ s < b ∨ (a ≠ s ∧ b ≠ s)); omega)
    rw [e]
    refine bdk within_k ?_
    rw [bI_dec]
    exact bdk (bO_bI _) rfl
  have no : (s < a ∨ s < b ∨ (a ≠ s ∧ b ≠ s)) → D_X9_fitsPair_24 (st true n c I W p) = some (bI (fitO Y s (a, b, l, u))) := by
    intro h
    have e : fitO Y s (a, b, l, u) = true := by unfold fitO; exact if_pos h
    rw [e]
    rfl
  unfold D_X9_fitsPair
  by_cases q1 : s < a
  · rw [if_pos (by omega)]; exact no (Or.inl q1)
  rw [if_neg (by omega)]
  by_cases q2 : s < b
  · rw [if_pos (by omega)]; exact no (Or.inr (Or.inl q2))
  rw [if_neg (by omega)]
  by_cases q3 : a = s
  · rw [if_pos (by omega)]; exact at0 (by omega) (by omega) (Or.inl q3)
  rw [if_neg (by omega)]
  by_cases q4 : b = s
  · rw [if_pos (by omega)]; exact at0 (by omega) (by omega) (Or.inr q4)
  rw [if_neg (by omega)]
  exact no (Or.inr (Or.inr ⟨q3, q4⟩))
theorem z9P4 {k : Nat} (hk : k < 4) (hT : RefT T I) {o : Option Int → Option Int} : (gR (st true n c I W p) 1170 8 11).bind (fun v1 => lI (st true n c I W p) v1 (k : Int)) = some (T (350 + k)) := by
  refine bdk z9R11 ((z9L11 (by omega) (by omega)).trans ?_)
  rw [toN, hT.2.2.2.2.2.2.1 k hk]
theorem fitL1 {s : Nat} {o : Op} {l : List Op} : fitL Y s ([o] ++ l) = (fitO Y s o && fitL Y s l) := rfl
theorem x9_119 {a b i s : Nat} {k : Int} (hm : nSa T ≤ 12) (ha : a < 4) (hb : b < 4) (wa : WFp T a) (wb' : WFp T b) (hT : RefT T I) (hi : (i : Int) < T (350 + a)) (hI : ∀ j, j ≤ s → I 1242 j = Y j) (hY : ∀ j, -1 ≤ Y j ∧ Y j ≤ 999) :
    ∀ (d j f : Nat) (is : Bool), (j : Int) + d = T (350 + b) → d < f → D_X9_fitsRule_119 f 1170 (s : Int) (a : Int) (b : Int) k (bI is) (i : Int) (j : Nat) (st true n c I W p) = some (bI (is && fitL Y s (flt (fun j => [(tPm T a i, tPm T b j, k, 999)]) d j))) := by
  intro d
  induction d with
  | zero =>
    intro j f is hj hf
    obtain ⟨f, rfl⟩ : ∃ g, f = g + 1 := ⟨f - 1, by omega⟩
    refine bdk z9R11 (bdk (z9L11 (by omega) (by omega)) ?_)
    rw [toN, hT.2.2.2.2.2.2.1 b hb, if_pos (by omega)]
    show _ = some (bI (is && true))
    rw [Bool.and_true]
  | succ d ih =>
    intro j f is hj hf
    obtain ⟨f, rfl⟩ : ∃ g, f = g + 1 := ⟨f - 1, by omega⟩
    have s1 := wa.1
    have s2 := wb'.1
    have m1 := wa.2.1 i hi
    have m2 := wb'.2.1 j (by omega)
    have p1 : T (360 + 6 * a + i) = ((tPm T a i : Nat) : Int) := by unfold tPm; omega
    have p2 : T (360 + 6 * b + j) = ((tPm T b j : Nat) : Int) := by unfold tPm; omega
    have l1 : tPm T a i < 12 := by unfold tPm nSa at *; omega
    have l2 : tPm T b j < 12 := by unfold tPm nSa at *; omega
    refine bdk z9R11 (bdk (z9L11 (by omega) (by omega)) ?_)
    rw [toN, hT.2.2.2.2.2.2.1 b hb, if_neg (by omega)]
    show _ = some (bI (is && fitL Y s ([(tPm T a i, tPm T b j, k, 999)] ++ flt _ d (j + 1))))
    rw [fitL1]
    unfold D_X9_fitsRule_169 D_X9_fitsRule_170
    rw [mw_n (by omega)]
    have r0 := ih (j + 1) f false (by omega) (by omega)
    cases is with
    | false =>
      rw [if_pos (show bI false = 0 from rfl)]
      exact r0
    | true =>
      rw [if_neg (by decide)]
      refine bdk z9T (bdk (x9_memberOf ha (by omega) hT) (bdk z9T (bdk (x9_memberOf hb (by omega) hT) (bdk z9T ?_))))
      rw [p1, p2]
      refine bdk (x9_fp l1 l2 hI hY) ?_
      cases hfit : fitO Y s (tPm T a i, tPm T b j, k, 999) with
      | false =>
        rw [if_pos (show bI false = 0 from rfl)]
        exact r0
      | true =>
        rw [if_neg (by decide)]
        exact ih (j + 1) f true (by omega) (by omega)
theorem x9_105 {a b s : Nat} {k : Int} (hm : nSa T ≤ 12) (ha : a < 4) (hb : b < 4) (wa : WFp T a) (wb' : WFp T b) (hT : RefT T I) (hI : ∀ j, j ≤ s → I 1242 j = Y j) (hY : ∀ j, -1 ≤ Y j ∧ Y j ≤ 999) :
    ∀ (d i f : Nat) (is : Bool), (i : Int) + d = T (350 + a) → d < f → D_X9_fitsRule_105 f 1170 (s : Int) (a : Int) (b : Int) k (bI is) (i : Nat) (st true n c I W p) = some (bI (is && fitL Y s (flt (fun i => flt (fun j => [(tPm T a i, tPm T b j, k, 999)]) (tPn T b) 0) d i))) := by
  intro d
  induction d with
  | zero =>
    intro i f is hj hf
    obtain ⟨f, rfl⟩ : ∃ g, f = g + 1 := ⟨f - 1, by omega⟩
    refine bdk z9R11 (bdk (z9L11 (by omega) (by omega)) ?_)
    rw [toN, hT.2.2.2.2.2.2.1 a ha, if_pos (by omega)]
    show _ = some (bI (is && true))
    rw [Bool.and_true]
  | succ d ih =>
    intro i f is hj hf
    obtain ⟨f, rfl⟩ : ∃ g, f = g + 1 := ⟨f - 1, by omega⟩
    have s1 := wa.1
    have s2 := wb'.1
    refine bdk z9R11 (bdk (z9L11 (by omega) (by omega)) ?_)
    rw [toN, hT.2.2.2.2.2.2.1 a ha, if_neg (by omega)]
    refine bdk (x9_119 hm ha hb wa wb' hT (by omega) hI hY (tPn T b) 0 mFU is (by unfold tPn; omega) (by unfold tPn mFU; omega)) ?_
    rw [mw_n (by omega), ih (i + 1) f _ (by omega) (by omega)]
    show _ = some (bI (is && fitL Y s (flt _ (tPn T b) 0 ++ flt _ d (i + 1))))
    rw [fitL_app, Bool.and_assoc]
theorem x9_207 {a i s : Nat} {k : Int} (hm : nSa T ≤ 12) (ha : a < 4) (hk : 0 ≤ k ∧ k ≤ 999) (wa : WFp T a) (hT : RefT T I) (hI : ∀ j, j ≤ s → I 1242 j = Y j) (hY : ∀ j, -1 ≤ Y j ∧ Y j ≤ 999) :
    ∀ (d j f : Nat) (is : Bool), i < j → (j : Int) + d = T (350 + a) → d < f → D_X9_fitsRule_207 f 1170 (s : Int) (a : Int) k (bI is) (i : Int) (j : Nat) (st true n c I W p) = some (bI (is && fitL Y s (flt (fun j => [(tPm T a i, tPm T a j, -k, k)]) d j))) := by
  intro d
  induction d with
  | zero =>
    intro j f is hij hj hf
    obtain ⟨f, rfl⟩ : ∃ g, f = g + 1 := ⟨f - 1, by omega⟩
    refine bdk z9R11 (bdk (z9L11 (by omega) (by omega)) ?_)
    rw [toN, hT.2.2.2.2.2.2.1 a ha, if_pos (by omega)]
    show _ = some (bI (is && true))
    rw [Bool.and_true]
  | succ d ih =>
    intro j f is hij hj hf
    obtain ⟨f, rfl⟩ : ∃ g, f = g + 1 := ⟨f - 1, by omega⟩
    have s1 := wa.1
    have m1 := wa.2.1 i (by omega)
    have m2 := wa.2.1 j (by omega)
    have p1 : T (360 + 6 * a + i) = ((tPm T a i : Nat) : Int) := by unfold tPm; omega
    have p2 : T (360 + 6 * a + j) = ((tPm T a j : Nat) : Int) := by unfold tPm; omega
    have l1 : tPm T a i < 12 := by unfold tPm nSa at *; omega
    have l2 : tPm T a j < 12 := by unfold tPm nSa at *; omega
    refine bdk z9R11 (bdk (z9L11 (by omega) (by omega)) ?_)
    rw [toN, hT.2.2.2.2.2.2.1 a ha, if_neg (by omega)]
    show _ = some (bI (is && fitL Y s ([(tPm T a i, tPm T a j, -k, k)] ++ flt _ d (j + 1))))
    rw [fitL1]
    unfold D_X9_fitsRule_255 D_X9_fitsRule_256
    rw [mw_n (by omega)]
    have r0 := ih (j + 1) f false (by omega) (by omega) (by omega)
    cases is with
    | false =>
      rw [if_pos (show bI false = 0 from rfl)]
      exact r0
    | true =>
      rw [if_neg (by decide)]
      refine bdk z9T (bdk (x9_memberOf ha (by omega) hT) (bdk z9T (bdk (x9_memberOf ha (by omega) hT) (bdk z9T ?_))))
      rw [p1, p2, mw_of (by omega) (by omega)]
      refine bdk (x9_fp l1 l2 hI hY) ?_
      cases hfit : fitO Y s (tPm T a i, tPm T a j, -k, k) with
      | false =>
        rw [if_pos (show bI false = 0 from rfl)]
        exact r0
      | true =>
        rw [if_neg (by decide)]
        exact ih (j + 1) f true (by omega) (by omega) (by omega)
theorem x9_190 {a s : Nat} {k : Int} (hm : nSa T ≤ 12) (ha : a < 4) (hk : 0 ≤ k ∧ k ≤ 999) (wa : WFp T a) (hT : RefT T I) (hI : ∀ j, j ≤ s → I 1242 j = Y j) (hY : ∀ j, -1 ≤ Y j ∧ Y j ≤ 999) :
    ∀ (d i f : Nat) (is : Bool), (i : Int) + d = T (350 + a) → d < f → D_X9_fitsRule_190 f 1170 (s : Int) (a : Int) k (bI is) (i : Nat) (st true n c I W p) = some (bI (is && fitL Y s (flt (fun i => flt (fun j => [(tPm T a i, tPm T a j, -k, k)]) (tPn T a - (i + 1)) (i + 1)) d i))) := by
  intro d
  induction d with
  | zero =>
    intro i f is hj hf
    obtain ⟨f, rfl⟩ : ∃ g, f = g + 1 := ⟨f - 1, by omega⟩
    refine bdk z9R11 (bdk (z9L11 (by omega) (by omega)) ?_)
    rw [toN, hT.2.2.2.2.2.2.1 a ha, if_pos (by omega)]
    show _ = some (bI (is && true))
    rw [Bool.and_true]
  | succ d ih =>
    intro i f is hj hf
    obtain ⟨f, rfl⟩ : ∃ g, f = g + 1 := ⟨f - 1, by omega⟩
    have s1 := wa.1
    refine bdk z9R11 (bdk (z9L11 (by omega) (by omega)) ?_)
    rw [toN, hT.2.2.2.2.2.2.1 a ha, if_neg (by omega), mw_n (by omega)]
    refine bdk (x9_207 hm ha hk wa hT hI hY (tPn T a - (i + 1)) (i + 1) mFU is (by omega) (by unfold tPn; omega) (by unfold tPn mFU; omega)) ?_
    rw [ih (i + 1) f _ (by omega) (by omega)]
    show _ = some (bI (is && fitL Y s (flt _ (tPn T a - (i + 1)) (i + 1) ++ flt _ d (i + 1))))
    rw [fitL_app, Bool.and_assoc]
theorem x9_fitsRule {r s : Nat} (hw : WF T) (hr : (r : Int) < T 2) (hT : RefT T I) (hI : ∀ j, j ≤ s → I 1242 j = Y j) (hY : ∀ j, -1 ≤ Y j ∧ Y j ≤ 999) : D_X9_fitsRule 1170 (r : Int) (s : Int) (st true n c I W p) = some (bI (fitL Y s (prsR T r))) := by
  have hw' := hw.1
  unfold WFn at hw'
  have hm : nSa T ≤ 12 := by unfold nSa; omega
  have r24 : r < 24 := by omega
  have wr := hw.2.2.2.2 r hr
  have wp := hw.2.2.2.1
  have toI : ∀ x : Int, 0 ≤ x → ((x.toNat : Nat) : Int) = x := fun x hx => by omega
  have rd : ∀ w : Nat, w < 5 → D_X9_ruleAt 1170 (r : Int) (w : Int) (st true n c I W p) = some (tRu T r w) := fun w h => x9_ruleAt r24 h hT
  have one : ∀ o : Op, fitL Y s [o] = fitO Y s o := fun o => Bool.and_true _
  unfold D_X9_fitsRule prsR
  refine bdk z9T (bdk (rd 1 (by decide)) (bdk z9T (bdk (rd 2 (by decide)) (bdk z9T (bdk (rd 3 (by decide)) (bdk z9T (bdk (rd 0 (by decide)) ?_)))))))
  rcases wr with ⟨k0, ⟨a0, a1⟩, ⟨b0, b1⟩, hab, l0, l1, l2⟩ | ⟨k0, ⟨a0, a1⟩, ⟨b0, b1⟩, hab, l0, l1⟩ | ⟨k0, ⟨a0, a1⟩, -, ⟨l0, l1⟩, -⟩ | ⟨k0, ⟨a0, a1⟩, ⟨b0, b1⟩, hab, ⟨l0, l1⟩, -⟩ | ⟨k0, ⟨a0, a1⟩, -, ⟨l0, l1⟩, -⟩
  · rw [if_pos k0, if_pos k0]
    refine bdk z9T (bdk (rd 4 (by decide)) (bdk z9T ?_))
    have e := x9_fp (n := n) (c := c) (W := W) (p := p) (a := (tRu T r 1).toNat) (b := (tRu T r 2).toNat) (l := tRu T r 3) (u := tRu T r 4) (s := s) (by omega) (by omega) hI hY
    rw [toI _ a0, toI _ b0] at e
    rw [one]
    exact bdk e (bdk (bO_bI _) rfl)
  · rw [if_neg (by omega), if_pos k0, if_neg (by omega), if_pos k0]
    refine bdk z9T ?_
    have e := x9_fp (n := n) (c := c) (W := W) (p := p) (a := (tRu T r 1).toNat) (b := (tRu T r 2).toNat) (l := 0) (u := 0) (s := s) (by omega) (by omega) hI hY
    rw [toI _ a0, toI _ b0] at e
    rw [one]
    exact bdk e (bdk (bO_bI _) rfl)
  · rcases k0 with k0 | k0
    · rw [if_neg (by omega), if_neg (by omega), if_pos k0, if_neg (by omega), if_neg (by omega), if_pos k0]
      rfl
    · rw [if_neg (by omega), if_neg (by omega), if_neg (by omega), if_pos k0, if_neg (by omega), if_neg (by omega), if_neg (by omega), if_pos k0]
      rfl
  · have wa := wp (tRu T r 1).toNat (by omega)
    have wb' := wp (tRu T r 2).toNat (by omega)
    have s1 := wa.1
    rw [if_neg (by omega), if_neg (by omega), if_neg (by omega), if_neg (by omega), if_pos k0, if_neg (by omega), if_neg (by omega), if_neg (by omega), if_neg (by omega), if_pos k0]
    have e := x9_105 (n := n) (c := c) (W := W) (p := p) (a := (tRu T r 1).toNat) (b := (tRu T r 2).toNat) (k := tRu T r 3) (s := s) hm (by omega) (by omega) wa wb' hT hI hY (tPn T (tRu T r 1).toNat) 0 mFU true (by unfold tPn; omega) (by unfold tPn mFU; omega)
    rw [toI _ a0, toI _ b0, Bool.true_and] at e
    exact bdk e (bdk (bO_bI _) rfl)
  · have wa := wp (tRu T r 1).toNat (by omega)
    have s1 := wa.1
    rw [if_neg (by omega), if_neg (by omega), if_neg (by omega), if_neg (by omega), if_neg (by omega), if_pos k0, if_neg (by omega), if_neg (by omega), if_neg (by omega), if_neg (by omega), if_neg (by omega)]
    have e := x9_190 (n := n) (c := c) (W := W) (p := p) (a := (tRu T r 1).toNat) (k := tRu T r 3) (s := s) hm (by omega) ⟨l0, l1⟩ wa hT hI hY (tPn T (tRu T r 1).toNat) 0 mFU true (by unfold tPn; omega) (by unfold tPn mFU; omega)
    rw [toI _ a0, Bool.true_and] at e
    exact bdk e (bdk (bO_bI _) rfl)
theorem x9_fa2 {s : Nat} (hw : WF T) (hT : RefT T I) (hI : ∀ j, j ≤ s → I 1242 j = Y j) (hY : ∀ j, -1 ≤ Y j ∧ Y j ≤ 999) : ∀ (d r f : Nat), (r : Int) + d = T 2 → d < f →
    D_X9_fitsAll_2 f 1170 (s : Int) (r : Nat) (st true n c I W p) = some (if fitL Y s (flt (prsR T) d r) = true then Sum.inl () else Sum.inr 0) := by
  have hw' := hw.1
  unfold WFn at hw'
  intro d
  induction d with
  | zero =>
    intro r f hr hf
    obtain ⟨f, rfl⟩ : ∃ g, f = g + 1 := ⟨f - 1, by omega⟩
    refine bdk z9R2 (bdk (z9L2 (by decide) (by decide)) ?_)
    rw [hT.1 _ (by decide)]
    show (if T 2 ≤ (r : Int) then _ else _) = _
    rw [if_pos (by omega)]
    rfl
  | succ d ih =>
    intro r f hr hf
    obtain ⟨f, rfl⟩ : ∃ g, f = g + 1 := ⟨f - 1, by omega⟩
    refine bdk z9R2 (bdk (z9L2 (by decide) (by decide)) ?_)
    rw [hT.1 _ (by decide)]
    show (if T 2 ≤ (r : Int) then _ else _) = _
    rw [if_neg (by omega)]
    refine bdk z9T (bdk (x9_fitsRule hw (by omega) hT hI hY) ?_)
    have e : fitL Y s (flt (prsR T) (d + 1) r) = (fitL Y s (prsR T r) && fitL Y s (flt (prsR T) d (r + 1))) := fitL_app Y s _ _
    rw [e]
    cases hfit : fitL Y s (prsR T r) with
    | false =>
      rw [if_neg (by decide)]
      rfl
    | true =>
      rw [if_pos (by decide), mw_n (by omega), Bool.true_and]
      exact ih (r + 1) f (by omega) (by omega)
theorem x9_fitsAll {s : Nat} (hw : WF T) (hT : RefT T I) (hI : ∀ j, j ≤ s → I 1242 j = Y j) (hY : ∀ j, -1 ≤ Y j ∧ Y j ≤ 999) : D_X9_fitsAll 1170 (s : Int) (st true n c I W p) = some (if fitA T Y s = true then 1 else 0) := by
  have hw' := hw.1
  unfold WFn at hw'
  have e := x9_fa2 (n := n) (c := c) (W := W) (p := p) hw hT hI hY (nRu T) 0 mFU (by unfold nRu; omega) (by unfold nRu mFU; omega)
  have e2 : fitL Y s (flt (prsR T) (nRu T) 0) = fitA T Y s := rfl
  rw [e2] at e
  refine bdk e ?_
  by_cases q : fitA T Y s = true
  · rw [if_pos q, if_pos q]; rfl
  · rw [if_neg q, if_neg q]
theorem x9_t13 (hw : WFn T) : ∀ (d k f : Nat) (I1 : Nat → Nat → Int), (k : Int) + d = T 304 → d < f → I1 1170 6 = T 304 → (∀ j, j < k → I1 1242 j = -1) →
    ∃ I', D_X9_tries_13 f 1170 (k : Nat) (st true n c I1 W p) = some (st true n c I' W p) ∧ (∀ j, j < nSa T → I' 1242 j = -1) ∧ Fr (fun x _ => x = 1242) I1 I' := by
  have hw' := hw
  unfold WFn at hw'
  intro d
  induction d with
  | zero =>
    intro k f I1 hk hf h6 h0
    obtain ⟨f, rfl⟩ : ∃ g, f = g + 1 := ⟨f - 1, by omega⟩
    refine ⟨I1, bdk z9I ?_, fun j hj => h0 j (by unfold nSa at hj; omega), Fr.rfl'⟩
    rw [h6, if_pos (by omega)]
  | succ d ih =>
    intro k f I1 hk hf h6 h0
    obtain ⟨f, rfl⟩ : ∃ g, f = g + 1 := ⟨f - 1, by omega⟩
    obtain ⟨I', e, h1, h2⟩ := ih (k + 1) f (u2 I1 1242 k (-1)) (by omega) (by omega) (by rw [u2_ne _ _ (by omega)]; exact h6) (fun j hj => by
      by_cases q : j = k
      · subst q; rw [u2_eq]
      · rw [u2_ne _ _ (by omega)]; exact h0 j (by omega))
    refine ⟨I', ?_, h1, Fr.trans' (fun x j q => u2_ne _ _ (by omega)) h2⟩
    refine bdk z9I ?_
    rw [h6, if_neg (by omega)]
    refine bdk z9R51 (bdk (z9S51 (by omega) (by omega)) ?_)
    rw [toN, mw_n (by omega)]
    exact e
theorem x9_t55 {s : Nat} {S : Nat → Bool} (hs : s < 12) (hS : ∀ y, y < 1000 → I (1193 + s) y = bI (S y)) : ∀ (d y f : Nat), y + d = 1000 → d < f → D_X9_tries_55 f 1170 (s : Int) (y : Nat) (st true n c I W p) = some ((nxt S d y : Nat) : Int) := by
  intro d
  induction d with
  | zero =>
    intro y f hy hf
    obtain ⟨f, rfl⟩ : ∃ g, f = g + 1 := ⟨f - 1, by omega⟩
    exact if_pos (by omega)
  | succ d ih =>
    intro y f hy hf
    obtain ⟨f, rfl⟩ : ∃ g, f = g + 1 := ⟨f - 1, by omega⟩
    show (if (1000 : Int) ≤ (y : Nat) then _ else _) = _
    rw [if_neg (by omega)]
    refine bdk z9R14 (bdk (z9A14 (by omega) (by omega)) ?_)
    rw [toN]
    refine bdk (z9L14 hs (by omega) (by omega)) ?_
    rw [toN, hS y (by omega)]
    show _ = some (((if S y = true then y else nxt S d (y + 1) : Nat)) : Int)
    cases hq : S y with
    | false =>
      rw [if_neg (by decide), if_neg (by decide), mw_n (by omega)]
      exact ih (y + 1) f (by omega) (by omega)
    | true =>
      rw [if_pos (by decide), if_pos rfl]
theorem x9_34 (hw : WF T) : ∀ (v a k f : Nat) (Y : Nat → Int) (I : Nat → Nat → Int), TrI (nSa T) v a Y k → v < f → RefT T I → (∀ s, s < nSa T → ∀ y, y < 1000 → I (1193 + s) y = bI (lft T s y)) → I 1170 52 = (k : Int) → (∀ j, j < nSa T → I 1242 j = Y j) →
    ∃ I', (let R := trN (lft T) (nSa T) (fitA T) v a Y k
      let D := D_X9_tries_34 f 1170 ((a : Int) - 1) (st true n c I W p)
      ((R.1 = -2 ∧ D = some (Sum.inr (-2, st true n c I' W p))) ∨ (R.1 = 0 ∧ D = some (Sum.inl (-1, st true n c I' W p))) ∨ (R.1 = 1 ∧ D = some (Sum.inl ((nSa T : Int), st true n c I' W p)))) ∧ I' 1170 52 = (R.2.1 : Nat) ∧ ∀ j, j < nSa T → I' 1242 j = R.2.2 j) ∧ Fr PQ I I' := by
  have hw' := hw.1
  unfold WFn at hw'
  have hm : nSa T ≤ 12 := by unfold nSa; omega
  have PQT : ∀ b k, PQ b k → b ≠ 1172 ∧ b ≠ 1175 ∧ b ≠ 1176 ∧ b ≠ 1177 ∧ b ≠ 1178 ∧ ¬ (b = 1170 ∧ 6 ≤ k ∧ k ≤ 8) := fun b k q => by unfold PQ at q; omega
  intro v
  induction v with
  | zero =>
    intro a k f Y I hI
    exact absurd hI.g (Nat.lt_irrefl 0)
  | succ v ih =>
    intro a k f Y I hI hf hT hS h3 h5
    obtain ⟨f, rfl⟩ : ∃ g, f = g + 1 := ⟨f - 1, by omega⟩
    have hI' := hI
    obtain ⟨i1, i2, i3, i4, i5, i6⟩ := hI'
    by_cases a0 : a = 0
    · subst a0
      refine ⟨I, ⟨Or.inr (Or.inl ⟨rfl, ?_⟩), h3, h5⟩, Fr.rfl'⟩
      show (if ((0 : Nat) : Int) - 1 < 0 then _ else _) = _
      rw [if_pos (by omega)]
      rfl
    obtain ⟨b, rfl⟩ : ∃ b, a = b + 1 := ⟨a - 1, by omega⟩
    have eb : ((b + 1 : Nat) : Int) - 1 = (b : Int) := by omega
    rw [eb]
    have eT : ∀ {R : Option ((Int × mS) ⊕ (Int × mS))}, (if T 304 ≤ (b : Int) then some (Sum.inl ((b : Int), st true n c I W p)) else
        (gR (st true n c I W p) 1170 8 51).bind fun v2 =>
        (lI (st true n c I W p) v2 (b : Int)).bind fun v3 =>
        (D_X9_tries_55 mFU 1170 (b : Int) (mw (v3 + 1)) (st true n c I W p)).bind fun r4 =>
        D_X9_tries_79 (D_X9_tries_34 f) 1170 (b : Int) r4 (st true n c I W p)) = R → D_X9_tries_34 (f + 1) 1170 (b : Int) (st true n c I W p) = R := by
      intro R hR
      show (if (b : Int) < 0 then _ else _) = _
      rw [if_neg (by omega)]
      refine bdk z9I ?_
      rw [hT.2.2.1]
      exact hR
    by_cases am : nSa T < b + 1
    · have e : b = nSa T := by omega
      have et : trN (lft T) (nSa T) (fitA T) (v + 1) (b + 1) Y k = (1, k, Y) := by
        show (if b + 1 = 0 then _ else if nSa T < b + 1 then _ else _) = _
        rw [if_neg (by omega), if_pos am]
      rw [et]
      refine ⟨I, ⟨Or.inr (Or.inr ⟨rfl, ?_⟩), h3, h5⟩, Fr.rfl'⟩
      refine eT ?_
      rw [if_pos (by unfold nSa at e; omega), ← e]
    obtain ⟨y, hy⟩ : ∃ y, y = nx (lft T b) (Y b + 1).toNat := ⟨_, rfl⟩
    have yb := i5 b
    have y0 : y ≤ 1000 := by rw [hy]; exact nx_le (by omega)
    have bm : b < nSa T := by omega
    have b12 : b < 12 := by omega
    have ec : trN (lft T) (nSa T) (fitA T) (v + 1) (b + 1) Y k = if y = 1000 then trN (lft T) (nSa T) (fitA T) v b (fun j => if j = b then -1 else Y j) k
        else if k = 20000 then (-2, k, Y) else if fitA T (fun j => if j = b then (y : Int) else Y j) b = true then trN (lft T) (nSa T) (fitA T) v (b + 2) (fun j => if j = b then (y : Int) else Y j) (k + 1) else trN (lft T) (nSa T) (fitA T) v (b + 1) (fun j => if j = b then (y : Int) else Y j) (k + 1) := by
      rw [hy]
      show (if b + 1 = 0 then _ else if nSa T < b + 1 then _ else _) = _
      rw [if_neg (by omega), if_neg am]
      rfl
    have pre : ∀ {R : Option ((Int × mS) ⊕ (Int × mS))}, D_X9_tries_79 (D_X9_tries_34 f) 1170 (b : Int) (y : Int) (st true n c I W p) = R → D_X9_tries_34 (f + 1) 1170 (b : Int) (st true n c I W p) = R := by
      intro R hR
      refine eT ?_
      rw [if_neg (by unfold nSa at bm; omega)]
      refine bdk z9R51 (bdk (z9L51 (by omega) (by omega)) ?_)
      rw [toN, h5 b bm]
      have en : D_X9_tries_55 mFU 1170 (b : Int) (mw (Y b + 1)) (st true n c I W p) = some (y : Int) := by
        rw [mw_of (by omega) (by omega), show Y b + 1 = (((Y b + 1).toNat : Nat) : Int) by omega, x9_t55 b12 (hS b bm) (1000 - (Y b + 1).toNat) (Y b + 1).toNat mFU (by omega) (by unfold mFU; omega), hy]
        rfl
      exact bdk en hR
    rw [ec]
    by_cases q : y = 1000
    · rw [if_pos q]
      have fJ : Fr PQ I (u2 I 1242 b (-1)) := fun x j w => by unfold PQ at w; rw [u2_ne _ _ (by omega)]
      obtain ⟨I1, e1, f1⟩ := ih b k f (fun j => if j = b then -1 else Y j) (u2 I 1242 b (-1)) (hI.back (by omega)) (by omega) (hT.fr fJ PQT) (fun s hs z hz => by rw [u2_ne _ _ (by omega)]; exact hS s hs z hz) (by rw [u2_ne _ _ (by omega)]; exact h3) (fun j hj => by
        show u2 I 1242 b (-1) 1242 j = if j = b then -1 else Y j
        by_cases e : j = b
        · subst e; rw [u2_eq, if_pos rfl]
        · rw [u2_ne _ _ (by omega), if_neg e]; exact h5 j hj)
      refine ⟨I1, ?_, Fr.trans' fJ f1⟩
      have ed : D_X9_tries_34 (f + 1) 1170 (b : Int) (st true n c I W p) = D_X9_tries_34 f 1170 ((b : Int) - 1) (st true n c (u2 I 1242 b (-1)) W p) := by
        refine pre ?_
        unfold D_X9_tries_79
        rw [if_neg (by omega)]
        refine bdk z9R51 (bdk (z9S51 (by omega) (by omega)) ?_)
        rw [toN, mw_of (by omega) (by omega), show (b : Int) + -1 = (b : Int) - 1 by omega]
      rw [ed]
      exact e1
    rw [if_neg q]
    by_cases q2 : k = 20000
    · rw [if_pos q2]
      refine ⟨I, ⟨Or.inl ⟨rfl, pre ?_⟩, h3, h5⟩, Fr.rfl'⟩
      unfold D_X9_tries_79
      rw [if_pos (by omega)]
      refine bdk z9I ?_
      rw [h3, if_neg (by omega)]
    rw [if_neg q2]
    obtain ⟨J, hJ⟩ : ∃ J, J = u2 (u2 I 1170 52 ((k + 1 : Nat) : Int)) 1242 b (y : Int) := ⟨_, rfl⟩
    have fJ : Fr PQ I J := fun x j w => by unfold PQ at w; rw [hJ, u2_ne _ _ (by omega), u2_ne _ _ (by omega)]
    have j3 : J 1170 52 = ((k + 1 : Nat) : Int) := by rw [hJ, u2_ne _ _ (by omega), u2_eq]
    have j5 : ∀ j, j < nSa T → J 1242 j = if j = b then (y : Int) else Y j := fun j h2 => by
      by_cases e : j = b
      · subst e; rw [if_pos rfl, hJ, u2_eq]
      · rw [if_neg e, hJ, u2_ne _ _ (by omega), u2_ne _ _ (by omega)]; exact h5 j h2
    have jT : RefT T J := hT.fr fJ PQT
    have jS : ∀ s, s < nSa T → ∀ z, z < 1000 → J (1193 + s) z = bI (lft T s z) := fun s hs z hz => by
      rw [hJ, u2_ne _ _ (by omega), u2_ne _ _ (by omega)]; exact hS s hs z hz
    have ef := x9_fitsAll (n := n) (c := c) (W := W) (p := p) (I := J) (Y := fun j => if j = b then (y : Int) else Y j) (s := b) hw jT (fun j hj => j5 j (by omega)) (fun j => by
      show -1 ≤ (if j = b then (y : Int) else Y j) ∧ (if j = b then (y : Int) else Y j) ≤ 999
      by_cases e : j = b
      · rw [if_pos e]; omega
      · rw [if_neg e]; exact i5 j)
    have pre2 : ∀ {R : Option ((Int × mS) ⊕ (Int × mS))}, (if fitA T (fun j => if j = b then (y : Int) else Y j) b = true then D_X9_tries_34 f 1170 ((b + 1 : Nat) : Int) (st true n c J W p)
              else D_X9_tries_34 f 1170 (b : Int) (st true n c J W p)) = R → D_X9_tries_34 (f + 1) 1170 (b : Int) (st true n c I W p) = R := by
      intro R hR
      refine pre ?_
      unfold D_X9_tries_79 D_X9_tries_140
      rw [if_pos (by omega)]
      refine bdk z9I ?_
      rw [h3, if_pos (by omega)]
      refine bdk z9I ?_
      rw [h3, mw_n (by omega)]
      refine bdk z9P (bdk z9R51 (bdk (z9S51 (by omega) (by omega)) (bdk z9T ?_)))
      rw [toN, ← hJ]
      refine bdk ef ?_
      by_cases q3 : fitA T (fun j => if j = b then (y : Int) else Y j) b = true
      · rw [if_pos q3] at hR ⊢
        rw [if_neg (by decide), mw_n (by omega)]
        exact hR
      · rw [if_neg q3] at hR ⊢
        rw [if_pos rfl]
        exact hR
    by_cases q3 : fitA T (fun j => if j = b then (y : Int) else Y j) b = true
    · rw [if_pos q3]
      obtain ⟨I1, e1, f1⟩ := ih (b + 2) (k + 1) f (fun j => if j = b then (y : Int) else Y j) J (hI.go (by omega) (by omega) q2 (by omega)) (by omega) jT jS j3 j5
      refine ⟨I1, ?_, Fr.trans' fJ f1⟩
      have ed : D_X9_tries_34 (f + 1) 1170 (b : Int) (st true n c I W p) = D_X9_tries_34 f 1170 (((b + 2 : Nat) : Int) - 1) (st true n c J W p) := by
        refine pre2 ?_
        rw [if_pos q3, show ((b + 2 : Nat) : Int) - 1 = ((b + 1 : Nat) : Int) by omega]
      rw [ed]
      exact e1
    · rw [if_neg q3]
      obtain ⟨I1, e1, f1⟩ := ih (b + 1) (k + 1) f (fun j => if j = b then (y : Int) else Y j) J (hI.stay (by omega) q2 (by omega)) (by omega) jT jS j3 j5
      refine ⟨I1, ?_, Fr.trans' fJ f1⟩
      have ed : D_X9_tries_34 (f + 1) 1170 (b : Int) (st true n c I W p) = D_X9_tries_34 f 1170 (((b + 1 : Nat) : Int) - 1) (st true n c J W p) := by
        refine pre2 ?_
        rw [if_neg q3, eb]
      rw [ed]
      exact e1
/-- the reference's trying, all through -/
def AskQ (T : Td) (I I' : Nat → Nat → Int) : Prop := RefT T I' ∧ (RefF T I' ∧ I' 1170 0 = 0) ∧ Fr (fun b k => QL b k ∨ PQ b k) I I'
theorem x9_tries (hw : WF T) (hT : RefT T I) (hF : RefF T I) (h17 : I 1170 17 = -1) (h19 : I 1170 19 = -1) :
    ∃ I', D_X9_tries 1170 (st true n c (zJ I) W p) = some ((trS T).1, st true n c I' W p) ∧ AskQ T I I' ∧ I' 1170 52 = ((trS T).2.1 : Nat) ∧ ((trS T).1 = 1 → ∀ j, j < nSa T → I' 1242 j = (trS T).2.2 j) := by
  have hw' := hw.1
  unfold WFn at hw'
  have hm : nSa T ≤ 12 := by unfold nSa; omega
  have PQT : ∀ b k, PQ b k → ¬ PL b k ∧ b ≠ 1172 ∧ b ≠ 1175 ∧ b ≠ 1176 ∧ b ≠ 1177 ∧ b ≠ 1178 ∧ ¬ (b = 1170 ∧ 6 ≤ k ∧ k ≤ 8) := fun b k q => by unfold PQ at q; unfold PL; omega
  obtain ⟨I1, e1, hA, h0, hS⟩ := x9_laysAsk (n := n) (c := c) (W := W) (p := p) hw hT hF h17 h19
  obtain ⟨hT1, ⟨hF1, -⟩, -, fr1⟩ := hA
  obtain ⟨I2, e2, h2, f2⟩ := x9_t13 (n := n) (c := c) (W := W) (p := p) hw.1 (nSa T) 0 mFU (u2 I1 1170 52 0) (by unfold nSa; omega) (by unfold nSa mFU; omega) (by rw [u2_ne _ _ (by omega)]; exact hT1.2.2.1) (fun j hj => by omega)
  have fr2 : Fr PQ I1 I2 := Fr.trans' (fun x k q => by unfold PQ at q; rw [u2_ne _ _ (by omega)]) (f2.mono (fun x k q => Or.inl q))
  obtain ⟨I3, ⟨e3, k3, y3⟩, f3⟩ := x9_34 (n := n) (c := c) (W := W) (p := p) hw 60000 1 0 mFU (fun _ => -1) I2 TrI.st (by decide) (hT1.fr fr2 (fun b k q => (PQT b k q).2)) (fun s hs y hy => by rw [fr2 _ _ (by unfold PQ; omega)]; exact hS s hs y hy) (by rw [f2 _ _ (by omega), u2_eq]; rfl) (fun j hj => h2 j hj)
  have er : trN (lft T) (nSa T) (fitA T) 60000 1 (fun _ => -1) 0 = trS T := rfl
  rw [er] at e3 k3 y3
  have fr3 := Fr.trans' fr2 f3
  have q0 : ((1 : Nat) : Int) - 1 = 0 := by omega
  rw [q0] at e3
  have hQ : AskQ T I I3 := ⟨hT1.fr fr3 (fun b k q => (PQT b k q).2), ⟨hF1.fr fr3 PQT hm, by rw [fr3 _ _ (by unfold PQ; omega)]; exact h0⟩, Fr.trans' (fr1.mono (fun b k q => Or.inl q)) (fr3.mono (fun b k q => Or.inr q))⟩
  have pre : ∀ {R : Option (Int × mS)}, ((D_X9_tries_34 mFU 1170 0 (st true n c I2 W p)).bind fun r4 =>
      match r4 with
      | (Sum.inl z5) => D_X9_tries_143 z5.1 z5.2
      | (Sum.inr z6) => some (z6.1, z6.2)) = R → D_X9_tries 1170 (st true n c (zJ I) W p) = R := by
    intro R hR
    unfold D_X9_tries
    exact bdk z9T (bdk e1 (bdk z9P (bdk e2 hR)))
  rcases e3 with ⟨r, e3⟩ | ⟨r, e3⟩ | ⟨r, e3⟩
  · refine ⟨I3, pre (bdk e3 ?_), hQ, k3, fun w => by omega⟩
    rw [r]
  · refine ⟨I3, pre (bdk e3 ?_), hQ, k3, fun w => by omega⟩
    rw [r]
    show D_X9_tries_143 (-1) (st true n c I3 W p) = _
    unfold D_X9_tries_143
    rw [if_neg (by decide)]
    rfl
  · refine ⟨I3, pre (bdk e3 ?_), hQ, k3, fun _ => y3⟩
    rw [r]
    show D_X9_tries_143 (nSa T : Int) (st true n c I3 W p) = _
    unfold D_X9_tries_143
    rw [if_pos (by omega)]
    rfl
end RY
