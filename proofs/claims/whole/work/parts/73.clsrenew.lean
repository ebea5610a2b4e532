/-! THE PURE PART: a rule added, a rule dropped, the ages laid, all renewed -/
def addT (T : Td) (k x y l m : Int) : Td := fun j => if j = 2 then T 2 + 1 else if j = 3 + 5 * nRu T then k else if j = 3 + 5 * nRu T + 1 then x else if j = 3 + 5 * nRu T + 2 then y else if j = 3 + 5 * nRu T + 3 then l else if j = 3 + 5 * nRu T + 4 then m else T j
def dropT (T : Td) (r : Nat) : Td := fun j => if j = 2 then T 2 - 1 else if 3 + 5 * r ≤ j ∧ j < 3 + 5 * (nRu T - 1) then T (j + 5) else T j
def NowC (T : Td) (I : Nat → Nat → Int) (W : Nat → Nat → BitVec 64) : Prop := FirstC 188 (nSa T) (FS T) W ∧ RNC 188 T (runS T (-1) (FS T)).1 I W ∧ I 188 8 = ((runS T (-1) (FS T)).2 : Nat)
section CN
variable {g : Bool} {n : Nat} {c : Nat × Nat × Nat × Nat} {I : Nat → Nat → Int} {W : Nat → Nat → BitVec 64} {p : Nat → Nat} {a b : Nat} {T : Td}
theorem addT_n {k x y l m : Int} (h : 0 ≤ T 2 ∧ T 2 < 24) {j : Nat} (hj : 123 ≤ j) : addT T k x y l m j = T j := by
  unfold addT nRu
  rw [if_neg (by omega), if_neg (by omega), if_neg (by omega), if_neg (by omega), if_neg (by omega), if_neg (by omega)]
theorem x5_addRule {k x y l m : Int} (hb : TB b) (hr : 0 ≤ T 2 ∧ T 2 < 24) (hw : WFn T) (hT : ClsT b T I) : ∃ I', D_X5_addRule b k x y l m (st g n c I W p) = some (st g n c I' W p) ∧ ClsT b (addT T k x y l m) I' ∧ Fr (fun z _ => PT b z) I I' := by
  unfold WFn at hw
  have hn24 : nRu T < 24 := by unfold nRu; omega
  have hTn : T 2 = ((nRu T : Nat) : Int) := by unfold nRu; omega
  have hb2 := TB_rng hb
  obtain ⟨h1, h2, h3, h4, h5⟩ := hT
  generalize hx : b + 50 + nRu T = z
  have hz : b + 50 ≤ z ∧ z < b + 74 := by omega
  have pz : ∀ (J : Nat → Nat → Int) (j : Nat) (v : Int), pI (st g n c J W p) z 3 j v = some (st g n c (u2 J z j v) W p) := fun J j v => by rw [← hx]; exact t3P hb hn24
  have ab : addT T k x y l m 2 = T 2 + 1 := rfl
  have big : ∀ j, 123 ≤ j → addT T k x y l m j = T j := fun j hj => addT_n hr hj
  have s12 : nSa (addT T k x y l m) = nSa T := by unfold nSa; rw [big _ (by decide)]
  have p4 : nPh (addT T k x y l m) = nPh T := by unfold nPh; rw [big _ (by decide)]
  have k16 : nKn (addT T k x y l m) = nKn T := by unfold nKn; rw [big _ (by decide)]
  have n1 : nRu (addT T k x y l m) = nRu T + 1 := by unfold nRu; rw [ab]; omega
  have sa : ∀ s w, tSa (addT T k x y l m) s w = tSa T s w := fun s w => big _ (by omega)
  refine ⟨u2 (u2 (u2 (u2 (u2 (u2 I z 0 k) z 1 x) z 2 y) z 3 l) z 4 m) b 5 (T 2 + 1), ?_, ?_, fun q j w => ?_⟩
  · unfold D_X5_addRule
    refine bdk (t5I hb) ?_
    rw [h1.2.2.2.2.2, if_pos (by omega)]
    refine bdk (t5R10 hb) (bdk (t5I hb) ?_)
    rw [h1.2.2.2.2.2]
    refine bdk (t5A5 hb (by omega) (by omega)) ?_
    rw [show b + 50 + (T 2).toNat = z from hx]
    refine bdk (pz _ _ _) (bdk (pz _ _ _) (bdk (pz _ _ _) (bdk (pz _ _ _) (bdk (pz _ _ _) (bdk (t5I hb) ?_)))))
    have v : u2 (u2 (u2 (u2 (u2 I z 0 k) z 1 x) z 2 y) z 3 l) z 4 m b 5 = T 2 := by
      rw [u2_def, if_neg (by omega), u2_def, if_neg (by omega), u2_def, if_neg (by omega), u2_def, if_neg (by omega), u2_def, if_neg (by omega)]
      exact h1.2.2.2.2.2
    rw [v, mw_of (by omega) (by omega)]
    exact bdk (t5P hb) rfl
  · have ue : ∀ q j, ¬ (q = b ∧ j = 5) → q ≠ z → u2 (u2 (u2 (u2 (u2 (u2 I z 0 k) z 1 x) z 2 y) z 3 l) z 4 m) b 5 (T 2 + 1) q j = I q j := fun q j w1 w2 => by
      rw [u2_def, if_neg w1, u2_def, if_neg (by omega), u2_def, if_neg (by omega), u2_def, if_neg (by omega), u2_def, if_neg (by omega), u2_def, if_neg (by omega)]
    refine ⟨?_, fun j hj => ?_, fun s hs => ?_, fun q hq => ?_, fun r hr2 w hw2 => ?_⟩
    · rw [ue _ _ (by omega) (by omega), ue _ _ (by omega) (by omega), ue _ _ (by omega) (by omega), ue _ _ (by omega) (by omega), ue _ _ (by omega) (by omega)]
      refine ⟨?_, ?_, by rw [big _ (by decide)]; exact h1.2.2.1, by rw [big _ (by decide)]; exact h1.2.2.2.1, by rw [big _ (by decide)]; exact h1.2.2.2.2.1, ?_⟩
      · have : addT T k x y l m 0 = T 0 := by unfold addT; rw [if_neg (by decide), if_neg (by omega), if_neg (by omega), if_neg (by omega), if_neg (by omega), if_neg (by omega)]
        rw [this]; exact h1.1
      · have : addT T k x y l m 1 = T 1 := by unfold addT; rw [if_neg (by decide), if_neg (by omega), if_neg (by omega), if_neg (by omega), if_neg (by omega), if_neg (by omega)]
        rw [this]; exact h1.2.1
      · rw [u2_def, if_pos ⟨rfl, rfl⟩]; rfl
    · rw [k16] at hj
      rw [ue _ _ (by omega) (by omega), ue _ _ (by omega) (by omega), big _ (by omega), big _ (by omega)]
      exact h2 j hj
    · rw [s12] at hs
      have : s < 12 := by unfold nSa at hs; omega
      rw [ue _ _ (by omega) (by omega), ue _ _ (by omega) (by omega), ue _ _ (by omega) (by omega), sa, sa, sa]
      refine ⟨(h3 s hs).1, fun hr3 j hj => ?_⟩
      rw [ue _ _ (by omega) (by omega), ue _ _ (by omega) (by omega), sa, sa]
      exact (h3 s hs).2 hr3 j hj
    · rw [p4] at hq
      have : q < 4 := by unfold nPh at hq; omega
      rw [ue _ _ (by omega) (by omega), big _ (by omega)]
      refine ⟨(h4 q hq).1, fun j hj => ?_⟩
      rw [ue _ _ (by omega) (by omega), big _ (by omega)]
      exact (h4 q hq).2 j hj
    · rw [n1] at hr2
      by_cases e : r = nRu T
      · subst e
        rw [hx]
        unfold tRu
        have : w = 0 ∨ w = 1 ∨ w = 2 ∨ w = 3 ∨ w = 4 := by omega
        rcases this with rfl | rfl | rfl | rfl | rfl
        · rw [u2_def, if_neg (by omega), u2_def, if_neg (by omega), u2_def, if_neg (by omega), u2_def, if_neg (by omega), u2_def, if_neg (by omega), u2_def, if_pos ⟨rfl, rfl⟩]
          unfold addT
          rw [if_neg (by omega), if_pos (by omega)]
        · rw [u2_def, if_neg (by omega), u2_def, if_neg (by omega), u2_def, if_neg (by omega), u2_def, if_neg (by omega), u2_def, if_pos ⟨rfl, rfl⟩]
          unfold addT
          rw [if_neg (by omega), if_neg (by omega), if_pos (by omega)]
        · rw [u2_def, if_neg (by omega), u2_def, if_neg (by omega), u2_def, if_neg (by omega), u2_def, if_pos ⟨rfl, rfl⟩]
          unfold addT
          rw [if_neg (by omega), if_neg (by omega), if_neg (by omega), if_pos (by omega)]
        · rw [u2_def, if_neg (by omega), u2_def, if_neg (by omega), u2_def, if_pos ⟨rfl, rfl⟩]
          unfold addT
          rw [if_neg (by omega), if_neg (by omega), if_neg (by omega), if_neg (by omega), if_pos (by omega)]
        · rw [u2_def, if_neg (by omega), u2_def, if_pos ⟨rfl, rfl⟩]
          unfold addT
          rw [if_neg (by omega), if_neg (by omega), if_neg (by omega), if_neg (by omega), if_neg (by omega), if_pos (by omega)]
      · rw [ue _ _ (by omega) (by omega)]
        have e2 : tRu (addT T k x y l m) r w = tRu T r w := by
          unfold tRu addT
          rw [if_neg (by omega), if_neg (by omega), if_neg (by omega), if_neg (by omega), if_neg (by omega), if_neg (by omega)]
        rw [e2]
        exact h5 r (by omega) w hw2
  · unfold PT at w
    rw [u2_def, if_neg (by omega), u2_def, if_neg (by omega), u2_def, if_neg (by omega), u2_def, if_neg (by omega), u2_def, if_neg (by omega), u2_def, if_neg (by omega)]
theorem x5_dr4 {r : Nat} (hb : TB b) (hm : nRu T ≤ 24) : ∀ (d k f : Nat) (I1 : Nat → Nat → Int), k + d = nRu T → d < f → r < k → I1 b 5 = ((nRu T : Nat) : Int) → (∀ q, r ≤ q → q + 1 < k → ∀ w, w < 5 → I1 (b + 50 + q) w = I (b + 50 + (q + 1)) w) → (∀ x j, ¬ (b + 50 + r ≤ x ∧ x + 1 < b + 50 + k) → I1 x j = I x j) →
    ∃ I', D_X5_dropRule_4 f b (k : Nat) (st g n c I1 W p) = some (st g n c I' W p) ∧ (∀ q, r ≤ q → q + 1 < nRu T → ∀ w, w < 5 → I' (b + 50 + q) w = I (b + 50 + (q + 1)) w) ∧ (∀ x j, ¬ (b + 50 + r ≤ x ∧ x + 1 < b + 50 + nRu T) → I' x j = I x j) := by
  intro d
  induction d with
  | zero =>
    intro k f I1 hk hf hrk h5 hc ho
    obtain ⟨f, rfl⟩ : ∃ g, f = g + 1 := ⟨f - 1, by omega⟩
    have e : k = nRu T := by omega
    subst e
    refine ⟨I1, bdk (t5I hb) ?_, hc, ho⟩
    rw [h5]
    exact if_pos (by omega)
  | succ d ih =>
    intro k f I1 hk hf hrk h5 hc ho
    obtain ⟨f, rfl⟩ : ∃ g, f = g + 1 := ⟨f - 1, by omega⟩
    obtain ⟨I2, e2, g1, g2⟩ := x3_copy (n := n) (c := c) (I := I1) (W := W) (p := p) (g := g) (r := k - 1) (q := k) hb hb (by omega) (by omega) (by omega)
    obtain ⟨I3, e3, k1, k2⟩ := ih (k + 1) f I2 (by omega) (by omega) (by omega) (by rw [g2 _ _ (by omega)]; exact h5) (fun q q1 q2 w hw => by
      by_cases e : q = k - 1
      · subst e
        rw [g1 w hw, ho _ _ (by omega), show k - 1 + 1 = k by omega]
      · rw [g2 _ _ (by omega)]
        exact hc q q1 (by omega) w hw) (fun x j w => by
      rw [g2 _ _ (by omega)]
      exact ho x j (by omega))
    refine ⟨I3, bdk (t5I hb) ?_, k1, k2⟩
    rw [h5, if_neg (by omega), mw_of (x := (k : Int) - 1) (by omega) (by omega)]
    refine bdk (t5R10 hb) (bdk (t5A5 hb (by omega) (by omega)) (bdk (t5R10 hb) (bdk (t5A5 hb (by omega) (by omega)) ?_)))
    rw [show ((k : Int) - 1).toNat = k - 1 by omega, toN]
    refine bdk (t3T hb (by omega)) (bdk e2 ?_)
    rw [mw_n (by omega)]
    exact e3
theorem x5_dropRule {r : Nat} (hb : TB b) (hw : WFn T) (hr : r < nRu T) (hT : ClsT b T I) : ∃ I', D_X5_dropRule b (r : Int) (st g n c I W p) = some (st g n c I' W p) ∧ ClsT b (dropT T r) I' ∧ Fr (fun z _ => PT b z) I I' := by
  unfold WFn at hw
  have hm : nRu T ≤ 24 := by unfold nRu; omega
  have hTn : T 2 = ((nRu T : Nat) : Int) := by unfold nRu; omega
  obtain ⟨h1, h2, h3, h4, h5⟩ := hT
  obtain ⟨I1, e1, k1, k2⟩ := x5_dr4 (n := n) (c := c) (I := I) (W := W) (p := p) (g := g) (T := T) (r := r) hb hm (nRu T - (r + 1)) (r + 1) mFU I (by omega) (by unfold mFU; omega) (by omega) (by rw [h1.2.2.2.2.2]; exact hTn) (fun q q1 q2 => by omega) (fun x j _ => rfl)
  have big : ∀ j, 123 ≤ j → dropT T r j = T j := fun j hj => by
    unfold dropT
    rw [if_neg (by omega), if_neg (by omega)]
  have s12 : nSa (dropT T r) = nSa T := by unfold nSa; rw [big _ (by decide)]
  have p4 : nPh (dropT T r) = nPh T := by unfold nPh; rw [big _ (by decide)]
  have k16 : nKn (dropT T r) = nKn T := by unfold nKn; rw [big _ (by decide)]
  have d2 : dropT T r 2 = T 2 - 1 := rfl
  have n1 : nRu (dropT T r) = nRu T - 1 := by unfold nRu at *; rw [d2]; omega
  have sa : ∀ s w, tSa (dropT T r) s w = tSa T s w := fun s w => big _ (by omega)
  have ue : ∀ q j, ¬ (q = b ∧ j = 5) → ¬ (b + 50 + r ≤ q ∧ q + 1 < b + 50 + nRu T) → u2 I1 b 5 (T 2 - 1) q j = I q j := fun q j w1 w2 => by rw [u2_def, if_neg w1]; exact k2 q j w2
  refine ⟨u2 I1 b 5 (T 2 - 1), ?_, ⟨?_, fun j hj => ?_, fun s hs => ?_, fun q hq => ?_, fun q hq w hw2 => ?_⟩, fun x j w => ?_⟩
  · unfold D_X5_dropRule
    rw [mw_n (by omega)]
    refine bdk e1 (bdk (t5I hb) ?_)
    rw [k2 _ _ (by omega), h1.2.2.2.2.2, mw_of (by omega) (by omega)]
    exact bdk (t5P hb) rfl
  · rw [ue _ _ (by omega) (by omega), ue _ _ (by omega) (by omega), ue _ _ (by omega) (by omega), ue _ _ (by omega) (by omega), ue _ _ (by omega) (by omega)]
    refine ⟨?_, ?_, by rw [big _ (by decide)]; exact h1.2.2.1, by rw [big _ (by decide)]; exact h1.2.2.2.1, by rw [big _ (by decide)]; exact h1.2.2.2.2.1, ?_⟩
    · have : dropT T r 0 = T 0 := by unfold dropT; rw [if_neg (by decide), if_neg (by omega)]
      rw [this]; exact h1.1
    · have : dropT T r 1 = T 1 := by unfold dropT; rw [if_neg (by decide), if_neg (by omega)]
      rw [this]; exact h1.2.1
    · rw [u2_def, if_pos ⟨rfl, rfl⟩]; rfl
  · rw [k16] at hj
    rw [ue _ _ (by omega) (by omega), ue _ _ (by omega) (by omega), big _ (by omega), big _ (by omega)]
    exact h2 j hj
  · rw [s12] at hs
    have : s < 12 := by unfold nSa at hs; omega
    rw [ue _ _ (by omega) (by omega), ue _ _ (by omega) (by omega), ue _ _ (by omega) (by omega), sa, sa, sa]
    refine ⟨(h3 s hs).1, fun hr3 j hj => ?_⟩
    rw [ue _ _ (by omega) (by omega), ue _ _ (by omega) (by omega), sa, sa]
    exact (h3 s hs).2 hr3 j hj
  · rw [p4] at hq
    have : q < 4 := by unfold nPh at hq; omega
    rw [ue _ _ (by omega) (by omega), big _ (by omega)]
    refine ⟨(h4 q hq).1, fun j hj => ?_⟩
    rw [ue _ _ (by omega) (by omega), big _ (by omega)]
    exact (h4 q hq).2 j hj
  · rw [n1] at hq
    rw [u2_def, if_neg (by omega)]
    unfold tRu dropT
    rw [if_neg (by omega)]
    by_cases e : r ≤ q
    · rw [if_pos (by omega), k1 q e (by omega) w hw2, h5 (q + 1) (by omega) w hw2]
      unfold tRu
      congr 1
      omega
    · rw [if_neg (by omega), k2 _ _ (by omega)]
      exact h5 q (by omega) w hw2
  · unfold PT at w
    exact ue x j (by omega) (by omega)
theorem x5_la2 : ∀ (d y f : Nat) (I1 : Nat → Nat → Int), y + d = 1000 → d < f → Fr (fun x _ => x = 33) I I1 → (∀ z, z < y → I1 33 z = -1) →
    ∃ I', D_X5_layAges_2 f 33 (y : Nat) (st g n c I1 W p) = some (st g n c I' W p) ∧ Fr (fun x _ => x = 33) I I' ∧ ∀ z, z < 1000 → I' 33 z = -1 := by
  intro d
  induction d with
  | zero =>
    intro y f I1 hy hf h1 h2
    obtain ⟨f, rfl⟩ : ∃ g, f = g + 1 := ⟨f - 1, by omega⟩
    have e : y = 1000 := by omega
    subst e
    exact ⟨I1, if_pos (by omega), h1, h2⟩
  | succ d ih =>
    intro y f I1 hy hf h1 h2
    obtain ⟨f, rfl⟩ : ∃ g, f = g + 1 := ⟨f - 1, by omega⟩
    obtain ⟨I', e, g1, g2⟩ := ih (y + 1) f (u2 I1 33 y (-1)) (by omega) (by omega) (fun x k q => by rw [u2_def, if_neg (fun w => q w.1)]; exact h1 x k q) (fun z hz => by
      rw [u2_def]
      by_cases q : z = y
      · subst q; exact if_pos ⟨rfl, rfl⟩
      · rw [if_neg (fun w => q w.2)]; exact h2 z (by omega))
    refine ⟨I', ?_, g1, g2⟩
    show (if (1000 : Int) ≤ (y : Nat) then _ else _) = _
    rw [if_neg (by omega)]
    refine bdk (z8S33 (by omega) (by omega)) ?_
    rw [mw_n (by omega)]
    exact e
theorem x5_la67 {k : Nat} (hb : TB b) (hb33 : b ≠ 33 ∧ b + 1 ≠ 33 ∧ b + 2 ≠ 33) (hn : WFn T) (hk : WFk T) (hk2 : (k : Int) + 1 < T 303) : ∀ (d j f : Nat) (I1 : Nat → Nat → Int), (j : Int) + d = T (310 + k + 1) - T (310 + k) + 1 → d < f → ClsT b T I1 → (∀ y : Nat, y < 1000 → I1 33 y = if T (310 + k) ≤ y ∧ (y : Int) < T (310 + k) + j then segA T k y else ageK T y k) →
    ∃ I', D_X5_layAges_67 f b 33 (k : Int) (T (310 + k + 1) - T (310 + k)) (T (330 + k + 1) - T (330 + k)) (j : Nat) (st g n c I1 W p) = some (st g n c I' W p) ∧ Fr (fun x _ => x = 33) I1 I' ∧ ∀ y : Nat, y < 1000 → I' 33 y = ageK T y (k + 1) := by
  have hn' := hn
  unfold WFn at hn'
  have a := hk.1 k (by omega)
  have b' := hk.1 (k + 1) (by omega)
  have dk := hk.2 k hk2
  have b2 : 310 + (k + 1) = 310 + k + 1 := by omega
  have b3 : 330 + (k + 1) = 330 + k + 1 := by omega
  rw [b2, b3] at b'
  have tbr := TB_rng hb
  intro d
  induction d with
  | zero =>
    intro j f I1 hj hf hT hI
    obtain ⟨f, rfl⟩ : ∃ g, f = g + 1 := ⟨f - 1, by omega⟩
    refine ⟨I1, if_pos (by omega), Fr.rfl', fun y hy => ?_⟩
    rw [hI y hy]
    show _ = if T (310 + k) ≤ (y : Int) ∧ (y : Int) ≤ T (310 + k + 1) then segA T k y else ageK T y k
    by_cases q : T (310 + k) ≤ (y : Int) ∧ (y : Int) ≤ T (310 + k + 1)
    · rw [if_pos q, if_pos (by omega)]
    · rw [if_neg q, if_neg (by omega)]
  | succ d ih =>
    intro j f I1 hj hf hT hI
    obtain ⟨f, rfl⟩ : ∃ g, f = g + 1 := ⟨f - 1, by omega⟩
    have yN : ((T (310 + k) + j).toNat : Int) = T (310 + k) + j := by omega
    have sr := seg_rng hk hk2 (y := T (310 + k) + j) (by omega) (by omega)
    have kn : k < nKn T := by unfold nKn; omega
    obtain ⟨t1, t2⟩ := hT.2.1 k kn
    have ue : ∀ x i, ¬ (x = 33) → u2 I1 33 (T (310 + k) + j).toNat (segA T k (T (310 + k) + j)) x i = I1 x i := fun x i q => by rw [u2_def, if_neg (fun w => q w.1)]
    obtain ⟨I', e, g1, g2⟩ := ih (j + 1) f (u2 I1 33 (T (310 + k) + j).toNat (segA T k (T (310 + k) + j))) (by omega) (by omega) (hT.fr (P := fun x _ => x = 33) hn ue (fun x i q => by omega)) (fun y hy => by
      rw [u2_def]
      by_cases q : y = (T (310 + k) + j).toNat
      · subst q
        rw [if_pos ⟨rfl, rfl⟩, if_pos (by omega), yN]
      · rw [if_neg (fun w => q w.2), hI y hy]
        by_cases q2 : T (310 + k) ≤ (y : Int) ∧ (y : Int) < T (310 + k) + j
        · rw [if_pos q2, if_pos (by omega)]
        · rw [if_neg q2, if_neg (by omega)])
    refine ⟨I', ?_, Fr.trans' ue g1, g2⟩
    show (if T (310 + k + 1) - T (310 + k) < (j : Int) then _ else _) = _
    rw [if_neg (by omega), if_neg (by omega)]
    have mb : -9989001 ≤ (T (330 + k + 1) - T (330 + k)) * (j : Int) ∧ (T (330 + k + 1) - T (330 + k)) * (j : Int) ≤ 9989001 := by
      have hy : 0 ≤ (j : Int) ∧ (j : Int) ≤ 999 := by omega
      have hr : -9999 ≤ T (330 + k + 1) - T (330 + k) ∧ T (330 + k + 1) - T (330 + k) ≤ 9999 := by omega
      have u1 : (T (330 + k + 1) - T (330 + k)) * (j : Int) ≤ 9999 * (j : Int) := Int.mul_le_mul_of_nonneg_right hr.2 hy.1
      have u2 : -9999 * (j : Int) ≤ (T (330 + k + 1) - T (330 + k)) * (j : Int) := Int.mul_le_mul_of_nonneg_right hr.1 hy.1
      omega
    refine bdk (t5R6 hb) (bdk (t5L1 hb (by omega) (by omega)) (bdk (t5R7 hb) (bdk (t5L2 hb (by omega) (by omega)) ?_)))
    rw [toN, t1, t2, mw_of (x := (T (330 + k + 1) - T (330 + k)) * (j : Int)) (by omega) (by omega)]
    unfold dvO
    rw [if_neg (by omega), Option.bind_some, mdiv_t ⟨by omega, by omega⟩ ⟨by omega, by omega⟩ (by omega)]
    have es : T (330 + k) + ((T (330 + k + 1) - T (330 + k)) * (j : Int)).tdiv (T (310 + k + 1) - T (310 + k)) = segA T k (T (310 + k) + j) := by
      unfold segA
      rw [show T (310 + k) + (j : Int) - T (310 + k) = (j : Int) by omega]
    rw [es, mw_of (x := T (310 + k) + (j : Int)) (by omega) (by omega), mw_of (x := segA T k (T (310 + k) + j)) (by omega) (by omega), mw_n (by omega)]
    exact bdk (z8S33 (by omega) (by omega)) e
theorem x5_la21 (hb : TB b) (hn : WFn T) (hk : WFk T) : ∀ (d k f : Nat) (I1 : Nat → Nat → Int), (k : Int) + 1 + d = T 303 → d < f → ClsT b T I1 → (∀ y : Nat, y < 1000 → I1 33 y = ageK T y k) →
    ∃ I', D_X5_layAges_21 f b 33 (k : Nat) (st g n c I1 W p) = some (st g n c I' W p) ∧ Fr (fun x _ => x = 33) I1 I' ∧ AgesC T I' := by
  have hn' := hn
  unfold WFn at hn'
  have tbr := TB_rng hb
  intro d
  induction d with
  | zero =>
    intro k f I1 hd hf hT hI
    obtain ⟨f, rfl⟩ : ∃ g, f = g + 1 := ⟨f - 1, by omega⟩
    refine ⟨I1, bdk (t5I hb) ?_, Fr.rfl', fun y hy => ?_⟩
    · rw [hT.1.2.2.1, mw_n (by omega)]
      exact if_pos (by omega)
    · rw [hI y hy]
      unfold ageS
      rw [show nKn T - 1 = k by unfold nKn; omega]
  | succ d ih =>
    intro k f I1 hd hf hT hI
    obtain ⟨f, rfl⟩ : ∃ g, f = g + 1 := ⟨f - 1, by omega⟩
    have kn : k < nKn T := by unfold nKn; omega
    have kn1 : k + 1 < nKn T := by unfold nKn; omega
    obtain ⟨t1, t2⟩ := hT.2.1 k kn
    obtain ⟨t3, t4⟩ := hT.2.1 (k + 1) kn1
    have a := hk.1 k (by omega)
    have b' := hk.1 (k + 1) (by omega)
    have dk := hk.2 k (by omega)
    have b2 : 310 + (k + 1) = 310 + k + 1 := by omega
    have b3 : 330 + (k + 1) = 330 + k + 1 := by omega
    rw [b2, b3] at b'
    rw [b2] at t3
    rw [b3] at t4
    obtain ⟨I2, e2, f2, v2⟩ := x5_la67 (n := n) (c := c) (W := W) (p := p) (g := g) (k := k) hb (by omega) hn hk (by omega) (T (310 + k + 1) - T (310 + k) + 1).toNat 0 mFU I1 (by omega) (by unfold mFU; omega) hT (fun y hy => by rw [hI y hy, if_neg (by omega)])
    obtain ⟨I3, e3, f3, v3⟩ := ih (k + 1) f I2 (by omega) (by omega) (hT.fr hn f2 (fun x i q => by omega)) v2
    refine ⟨I3, bdk (t5I hb) ?_, Fr.trans' f2 f3, v3⟩
    rw [hT.1.2.2.1, mw_n (by omega), if_neg (by omega)]
    refine bdk (t5R6 hb) (bdk (t5L1 hb (by omega) (by omega)) (bdk (t5R6 hb) (bdk (t5L1 hb (by omega) (by omega)) (bdk (t5R7 hb) (bdk (t5L2 hb (by omega) (by omega)) (bdk (t5R7 hb) (bdk (t5L2 hb (by omega) (by omega)) ?_)))))))
    rw [toN, toN, t1, t2, t3, t4, mw_of (x := T (310 + k + 1) - T (310 + k)) (by omega) (by omega), mw_of (x := T (330 + k + 1) - T (330 + k)) (by omega) (by omega)]
    refine bdk e2 ?_
    unfold D_X5_layAges_108
    rw [mw_n (by omega)]
    exact e3
theorem x5_layAges (hb : TB b) (hw : WF T) (hT : ClsT b T I) : ∃ I', D_X5_layAges b 33 (st g n c I W p) = some (st g n c I' W p) ∧ Fr (fun x _ => x = 33) I I' ∧ AgesC T I' := by
  have hn' := hw.1
  unfold WFn at hn'
  have tbr := TB_rng hb
  obtain ⟨I1, e1, f1, v1⟩ := x5_la2 (n := n) (c := c) (I := I) (W := W) (p := p) (g := g) 1000 0 mFU I rfl (by decide) Fr.rfl' (fun z hz => by omega)
  obtain ⟨I2, e2, f2, v2⟩ := x5_la21 (n := n) (c := c) (W := W) (p := p) (g := g) hb hw.1 hw.2.1 (nKn T - 1) 0 mFU I1 (by unfold nKn; omega) (by unfold nKn mFU; omega) (hT.fr hw.1 f1 (fun x i q => by omega)) (fun y hy => v1 y hy)
  exact ⟨I2, bdk e1 (bdk e2 rfl), Fr.trans' f1 f2, v2⟩
/-- what renewing writes -/
def PRn (a k : Nat) : Prop := PR 188 a k ∨ a = 188 + 31 ∨ (a = 254 ∧ k = 1)
def PRw (a : Nat) : Prop := (188 + 2 ≤ a ∧ a < 188 + 14) ∨ PW 188 a
theorem x8_renew (hw : WF T) (hT : ClsT 34 T I) (hA : AgesC T I) : ∃ I' W', D_X8_renew 32 (st g n c I W p) = some (st g n c I' W' p) ∧ NowC T I' W' ∧ I' 254 1 = 0 ∧ Fr PRn I I' ∧ (∀ x, ¬ PRw x → W' x = W x) := by
  have hn := hw.1
  have hn' := hn
  unfold WFn at hn'
  have nb : NB 188 := Or.inl rfl
  obtain ⟨I1, W1, e1, f1, w1, g1⟩ := x0_layFirst (n := n) (c := c) (I := I) (W := W) (p := p) (g := g) (sg := T 0) (rv := T 1) nb hw hT hA (by omega) (by omega)
  have t1 : ClsT 34 T I1 := hT.fr hn g1 (fun x i q => by omega)
  obtain ⟨I2, W2, e2, r2, g2, w2, t2⟩ := x0_run (n := n) (c := c) (p := p) (g := g) (skip := -1) (u := 0) (F := FS T) nb hw (Or.inl rfl) t1 f1
  rcases r2 with ⟨N2, h8⟩ | ⟨u1, -⟩
  · have ue : ∀ x k, ¬ (x = 254 ∧ k = 1) → u2 I2 254 1 0 x k = I2 x k := fun x k q => by rw [u2_def, if_neg q]
    have N3 : RNC 188 T (runS T (-1) (FS T)).1 (u2 I2 254 1 0) W2 := by
      obtain ⟨n1, ⟨a1, a2, a3, a4, a5, a6⟩, n3⟩ := N2
      refine ⟨n1.fr (P := fun x k => x = 254 ∧ k = 1) hn ue (fun x i q => by omega), ⟨a1, fun s hs => ?_, fun r hr => ?_, ?_, ?_, ?_⟩, n3⟩
      · rw [ue _ _ (by omega), ue _ _ (by omega), ue _ _ (by omega)]; exact a2 s hs
      · rw [ue _ _ (by omega)]; exact a3 r hr
      · rw [ue _ _ (by omega)]; exact a4
      · rw [ue _ _ (by omega)]; exact a5
      · rw [ue _ _ (by omega)]; exact a6
    refine ⟨u2 I2 254 1 0, W2, ?_, ⟨fun s hs y hy => ?_, N3, by rw [ue _ _ (by omega)]; exact h8⟩, by rw [u2_def, if_pos ⟨rfl, rfl⟩], fun x k q => ?_, fun x hx => ?_⟩
    · unfold D_X8_renew
      refine bdk z8R9 (bdk z8R1 (bdk (t5I TB34) (bdk z8R1 (bdk (t5I TB34) (bdk (n0T nb) ?_)))))
      rw [hT.1.1, hT.1.2.1]
      exact bdk e1 (bdk z8R9 (bdk (n0T nb) (bdk e2 (bdk z8R11 (bdk (s_pB (m := 8) rfl (Or.inl rfl)) rfl)))))
    · have : nSa T ≤ 12 := by unfold nSa; omega
      rw [w2 _ (by unfold PW; omega)]
      exact f1 s hs y hy
    · unfold PRn at q
      rw [ue x k (by omega), g2 x k (fun w => q (Or.inl w)), g1 x k (by omega)]
    · unfold PRw at hx
      rw [w2 x (fun w => hx (Or.inr w)), w1 x (by omega)]
  · cases u1
end CN
