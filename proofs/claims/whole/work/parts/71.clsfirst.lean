/-! THE PURE PART: the desk's misfits and first spans -/
def AgesC (T : Td) (I : Nat → Nat → Int) : Prop := ∀ y : Nat, y < 1000 → I 33 y = ageS T y
theorem ageS_big {T : Td} (hn : WFn T) (hk : WFk T) {y : Int} (hy : 1000 ≤ y) : ageS T y = -1 := by
  have hn' := hn
  unfold WFn at hn'
  have := hk.1 (nKn T - 1) (by unfold nKn; omega)
  exact ageS_out hn hk (Or.inr (by omega))
/-- the least misfit as the desk seeks it -/
def lmC (T : Td) (rv : Int) (s : Nat) : Nat → Nat → Int → Int
  | 0, _, b => b
  | d + 1, y, b => lmC T rv s d (y + 1) (if misS T rv s y = -1 then b else if b ≤ misS T rv s y then b else misS T rv s y)
theorem lmC_rel {T : Td} {rv big : Int} {s : Nat} (hm : ∀ y : Nat, misS T rv s y = -1 ∨ (0 ≤ misS T rv s y ∧ misS T rv s y ≤ 66000)) (hb : 66000 < big) : ∀ d y b c, ((b = -1 ∧ c = big) ∨ (b ≠ -1 ∧ c = b)) → (lmS T rv s d y b = -1 ∧ lmC T rv s d y c = big) ∨ (lmS T rv s d y b ≠ -1 ∧ lmC T rv s d y c = lmS T rv s d y b) := by
  intro d
  induction d with
  | zero => intro y b c h; exact h
  | succ d ih =>
    intro y b c h
    have m := hm y
    refine ih (y + 1) _ _ ?_
    by_cases q : misS T rv s y = -1
    · rw [if_pos q, if_pos q]; exact h
    · rw [if_neg q, if_neg q]
      rcases h with ⟨h1, h2⟩ | ⟨h1, h2⟩
      · rw [if_pos h1, if_neg (by omega)]
        exact Or.inr ⟨q, rfl⟩
      · rw [if_neg h1, h2]
        refine Or.inr ⟨?_, rfl⟩
        split
        · exact h1
        · exact q
theorem lmS_none {T : Td} {rv : Int} {s : Nat} (hm : ∀ y : Nat, misS T rv s y = -1 ∨ (0 ≤ misS T rv s y ∧ misS T rv s y ≤ 66000)) : ∀ d y b, lmS T rv s d y b = -1 → b = -1 ∧ ∀ z, y ≤ z → z < y + d → misS T rv s z = -1 := by
  intro d
  induction d with
  | zero => intro y b h; exact ⟨h, fun z h1 h2 => by omega⟩
  | succ d ih =>
    intro y b h
    obtain ⟨h1, h2⟩ := ih (y + 1) _ h
    have m := hm y
    have q : misS T rv s y = -1 := by
      by_cases q : misS T rv s y = -1
      · exact q
      · rw [if_neg q] at h1
        split at h1
        · exact absurd h1 q
        · split at h1
          · contradiction
          · exact absurd h1 q
    rw [if_pos q] at h1
    refine ⟨h1, fun z z1 z2 => ?_⟩
    by_cases e : z = y
    · rw [e]; exact q
    · exact h2 z (by omega) (by omega)
section CG
variable {g : Bool} {n : Nat} {c : Nat × Nat × Nat × Nat} {I : Nat → Nat → Int} {W : Nat → Nat → BitVec 64} {p : Nat → Nat} {b : Nat} {N : NS} {T : Td}
theorem z33 {i : Int} (h0 : 0 ≤ i) (h1 : i < 1000) : lI (st g n c I W p) 33 i = some (I 33 i.toNat) := s_lI (m := 1000) rfl h0 h1
theorem x0_m44 {s y : Nat} {rv : Int} (h : NB b) (hw : WF T) (hT : ClsT 34 T I) (hA : AgesC T I) (hs : (s : Int) < T 304) (hy : y < 1000) (hrv : -500 ≤ rv ∧ rv ≤ 500) (k1 : tSa T s 0 = 1) :
    ∀ (d k f : Nat) (acc : Int), (k : Int) + d = tSa T s 2 → d < f → 0 ≤ acc ∧ acc ≤ 11000 * k → ∃ r : Int ⊕ Int, D_X0_misfitOf_44 f b (34 + 6 + 3 * s) (y : Int) rv acc (k : Nat) (st g n c I W p) = some r ∧ r.elim id id = misR T rv s y d k acc := by
  have hn := hw.1
  have hk := hw.2.1
  have hn' := hn
  unfold WFn at hn'
  have s12 : s < 12 := by omega
  have sm : s < nSa T := by unfold nSa; omega
  have ts := (hT.2.2.1 s sm).1
  have tr := (hT.2.2.1 s sm).2 k1
  have ws : (0 ≤ tSa T s 1 ∧ tSa T s 1 ≤ 999) ∧ (1 ≤ tSa T s 2 ∧ tSa T s 2 ≤ 6) ∧ ∀ k : Nat, (k : Int) < tSa T s 2 → (0 ≤ tSa T s (3 + k) ∧ tSa T s (3 + k) ≤ 300) ∧ 0 ≤ tSa T s (9 + k) ∧ tSa T s (9 + k) ≤ 9999 := by
    rcases hw.2.2.1 s hs with ⟨k0, -⟩ | ⟨-, w⟩
    · omega
    · exact w
  intro d
  induction d with
  | zero =>
    intro k f acc hd hf ha
    obtain ⟨f, rfl⟩ : ∃ g, f = g + 1 := ⟨f - 1, by omega⟩
    refine ⟨Sum.inl acc, bdk (t4I TB34 s12) ?_, rfl⟩
    rw [ts.2.2]
    exact if_pos (by omega)
  | succ d ih =>
    intro k f acc hd hf ha
    obtain ⟨f, rfl⟩ : ∃ g, f = g + 1 := ⟨f - 1, by omega⟩
    have wk := ws.2.2 k (by omega)
    obtain ⟨tk1, tk2⟩ := tr k (by omega)
    have ar := ageS_rng hn hk ((y : Int) + tSa T s (3 + k))
    have head : ∀ {R : Option (Int ⊕ Int)}, (if 1000 ≤ (y : Int) + tSa T s (3 + k) then D_X0_misfitOf_90 (D_X0_misfitOf_44 f) (st g n c I W p) else
        (gR (st g n c I W p) b 0 1).bind fun v4 => (lI (st g n c I W p) v4 ((y : Int) + tSa T s (3 + k))).bind fun v5 =>
        if v5 ≠ (-1) then (gR (st g n c I W p) b 0 1).bind fun v6 => (lI (st g n c I W p) v6 ((y : Int) + tSa T s (3 + k))).bind fun v7 => (gR (st g n c I W p) (34 + 6 + 3 * s) 4 4).bind fun v8 => (lI (st g n c I W p) v8 (k : Int)).bind fun v9 =>
            (D_X0_misfitOf_44 f) b (34 + 6 + 3 * s) (y : Int) rv (mw (acc + (if 0 ≤ (mw ((mw (v7 + rv)) - v9)) then (mw ((mw (v7 + rv)) - v9)) else mw (0 - (mw ((mw (v7 + rv)) - v9)))))) (mw ((k : Int) + 1)) (st g n c I W p)
        else D_X0_misfitOf_90 (D_X0_misfitOf_44 f) (st g n c I W p)) = R → D_X0_misfitOf_44 (f + 1) b (34 + 6 + 3 * s) (y : Int) rv acc (k : Nat) (st g n c I W p) = R := by
      intro R hh
      refine bdk (t4I TB34 s12) ?_
      rw [ts.2.2, if_neg (by omega), if_neg (by omega)]
      refine bdk (t4R3 TB34 s12) (bdk (t4L1 TB34 s12 (by omega) (by omega)) ?_)
      rw [toN, tk1, mw_of (x := (y : Int) + tSa T s (3 + k)) (by omega) (by omega)]
      exact hh
    by_cases big : 1000 ≤ (y : Int) + tSa T s (3 + k)
    · refine ⟨Sum.inr (-1), head ?_, by rw [misR_s, if_pos (ageS_big hn hk big)]; rfl⟩
      rw [if_pos big]
      rfl
    · have ia : I 33 ((y : Int) + tSa T s (3 + k)).toNat = ageS T ((y : Int) + tSa T s (3 + k)) := by
        rw [hA _ (by omega)]
        congr 1
        omega
      by_cases q : ageS T ((y : Int) + tSa T s (3 + k)) = -1
      · refine ⟨Sum.inr (-1), head ?_, by rw [misR_s, if_pos q]; rfl⟩
        rw [if_neg big]
        refine bdk (n0R1 h) (bdk (z33 (by omega) (by omega)) ?_)
        rw [ia, if_neg (by omega)]
        rfl
      · have ab := absI_rng (x := ageS T ((y : Int) + tSa T s (3 + k)) + rv - tSa T s (9 + k)) (b := 11000) (by omega)
        obtain ⟨r, e, er⟩ := ih (k + 1) f (acc + absI (ageS T (y + tSa T s (3 + k)) + rv - tSa T s (9 + k))) (by omega) (by omega) (by omega)
        refine ⟨r, head ?_, by rw [misR_s, if_neg q]; exact er⟩
        rw [if_neg big]
        refine bdk (n0R1 h) (bdk (z33 (by omega) (by omega)) ?_)
        rw [ia, if_pos q]
        refine bdk (n0R1 h) (bdk (z33 (by omega) (by omega)) (bdk (t4R4 TB34 s12) (bdk (t4L2 TB34 s12 (by omega) (by omega)) ?_)))
        rw [ia, toN, tk2, mw_of (x := ageS T ((y : Int) + tSa T s (3 + k)) + rv) (by omega) (by omega), mw_of (x := ageS T ((y : Int) + tSa T s (3 + k)) + rv - tSa T s (9 + k)) (by omega) (by omega), absI_mw (by omega), mw_of (x := acc + _) (by omega) (by omega), mw_n (by omega)]
        exact e
theorem x0_misfit {s y : Nat} {rv : Int} (h : NB b) (hw : WF T) (hT : ClsT 34 T I) (hA : AgesC T I) (hs : (s : Int) < T 304) (hy : y < 1000) (hrv : -500 ≤ rv ∧ rv ≤ 500) : D_X0_misfitOf b (34 + 6 + 3 * s) (y : Int) rv (st g n c I W p) = some (misS T rv s y) := by
  have hn := hw.1
  have hk := hw.2.1
  have hn' := hn
  unfold WFn at hn'
  have s12 : s < 12 := by omega
  have sm : s < nSa T := by unfold nSa; omega
  have ts := (hT.2.2.1 s sm).1
  have ar := ageS_rng hn hk (y : Int)
  unfold D_X0_misfitOf misS
  refine bdk (t4I TB34 s12) ?_
  rw [ts.1]
  rcases hw.2.2.1 s hs with ⟨k0, a, b'⟩ | ⟨k1, a, b', d⟩
  · rw [if_neg (by omega), if_pos k0]
    refine bdk (n0R1 h) (bdk (z33 (by omega) (by omega)) ?_)
    rw [toN, hA y hy]
    by_cases q : ageS T (y : Int) = -1
    · rw [if_neg (by omega), if_pos q]
      rfl
    · rw [if_pos q, if_neg q]
      refine bdk (n0R1 h) (bdk (z33 (by omega) (by omega)) (bdk (t4I TB34 s12) ?_))
      rw [toN, hA y hy, ts.2.1, mw_of (x := ageS T (y : Int) + rv) (by omega) (by omega), mw_of (x := ageS T (y : Int) + rv - tSa T s 1) (by omega) (by omega), absI_mw (by omega)]
      rfl
  · rw [if_pos (by omega), if_neg (by omega)]
    obtain ⟨r, e, er⟩ := x0_m44 (n := n) (c := c) (W := W) (p := p) (g := g) (b := b) h hw hT hA hs hy hrv k1 (tSa T s 2).toNat 0 mFU 0 (by omega) (by unfold mFU; omega) (by omega)
    refine bdk e ?_
    rw [← er]
    cases r <;> rfl
/-- putting years one by one, as a predicate says -/
def PutAt (a : Nat) (P : Nat → Bool) (y : Nat) (W W1 : Nat → Nat → BitVec 64) : Prop := (∀ x, x ≠ a → W1 x = W x) ∧ ∀ z, z < 1024 → wb (W1 a) z = (decide (z < y) && P z)
theorem PutAt.skip {a y : Nat} {P : Nat → Bool} {W W1 : Nat → Nat → BitVec 64} (h : PutAt a P y W W1) (hp : P y = false) : PutAt a P (y + 1) W W1 := by
  refine ⟨h.1, fun z hz => ?_⟩
  rw [h.2 z hz]
  by_cases q : z = y
  · subst q; rw [hp, Bool.and_false, Bool.and_false]
  · congr 1
    rw [decide_eq_decide]
    omega
theorem PutAt.put {a y : Nat} {P : Nat → Bool} {W W1 W2 : Nat → Nat → BitVec 64} (h : PutAt a P y W W1) (hp : P y = true) (h1 : ∀ b, b ≠ a → W2 b = W1 b) (h2 : ∀ z, wb (W2 a) z = (wb (W1 a) z || decide (z = y))) : PutAt a P (y + 1) W W2 := by
  refine ⟨fun x hx => by rw [h1 x hx]; exact h.1 x hx, fun z hz => ?_⟩
  rw [h2, h.2 z hz]
  by_cases q : z = y
  · subst q
    rw [hp, decide_eq_true rfl, Bool.or_true, decide_eq_true (by omega : z < z + 1)]
    rfl
  · rw [decide_eq_false q, Bool.or_false]
    congr 1
    rw [decide_eq_decide]
    omega
theorem x0_ld3 {a : Nat} {lo hi : Int} (h : NB b) (ha : HC g a = (52, 16)) (hA : AgesC T I) : ∀ (d y f : Nat) (W1 : Nat → Nat → BitVec 64), y + d = 1000 → d < f → PutAt a (fun z => decide (ageS T z ≠ -1 ∧ lo ≤ ageS T z ∧ ageS T z ≤ hi)) y W W1 →
    ∃ W', D_X0_layDated_3 f b a lo hi (y : Nat) (st g n c I W1 p) = some (st g n c I W' p) ∧ PutAt a (fun z => decide (ageS T z ≠ -1 ∧ lo ≤ ageS T z ∧ ageS T z ≤ hi)) 1000 W W' := by
  intro d
  induction d with
  | zero =>
    intro y f W1 hy hf h1
    obtain ⟨f, rfl⟩ : ∃ g, f = g + 1 := ⟨f - 1, by omega⟩
    have e : y = 1000 := by omega
    subst e
    exact ⟨W1, if_pos (by omega), h1⟩
  | succ d ih =>
    intro y f W1 hy hf h1
    obtain ⟨f, rfl⟩ : ∃ g, f = g + 1 := ⟨f - 1, by omega⟩
    have stp : ∃ W2, D_X0_layDated_3 (f + 1) b a lo hi (y : Nat) (st g n c I W1 p) = D_X0_layDated_3 f b a lo hi ((y + 1 : Nat) : Int) (st g n c I W2 p) ∧ PutAt a (fun z => decide (ageS T z ≠ -1 ∧ lo ≤ ageS T z ∧ ageS T z ≤ hi)) (y + 1) W W2 := by
      have head : ∀ {R : Option mS}, (if ageS T (y : Int) < lo then D_X0_layDated_44 (D_X0_layDated_3 f) b a lo hi (y : Int) (st g n c I W1 p) else if hi < ageS T (y : Int) then D_X0_layDated_44 (D_X0_layDated_3 f) b a lo hi (y : Int) (st g n c I W1 p) else if ageS T (y : Int) = (-1) then D_X0_layDated_44 (D_X0_layDated_3 f) b a lo hi (y : Int) (st g n c I W1 p) else
          (D_X7_put a (y : Int) (st g n c I W1 p)).bind fun r3 => D_X0_layDated_44 (D_X0_layDated_3 f) b a lo hi (y : Int) r3) = R → D_X0_layDated_3 (f + 1) b a lo hi (y : Nat) (st g n c I W1 p) = R := by
        intro R hh
        show (if (1000 : Int) ≤ (y : Nat) then _ else _) = _
        rw [if_neg (by omega)]
        refine bdk (n0R1 h) (bdk (z33 (by omega) (by omega)) ?_)
        rw [toN, hA y (by omega)]
        exact hh
      have e44 : ∀ σ, D_X0_layDated_44 (D_X0_layDated_3 f) b a lo hi (y : Int) σ = D_X0_layDated_3 f b a lo hi ((y + 1 : Nat) : Int) σ := fun σ => by unfold D_X0_layDated_44; rw [mw_n (by omega)]
      by_cases q : ageS T (y : Int) ≠ -1 ∧ lo ≤ ageS T (y : Int) ∧ ageS T (y : Int) ≤ hi
      · obtain ⟨W2, e, f1, f2⟩ := put_k (n := n) (c := c) (I := I) (W := W1) (p := p) ha (y := y) (by omega)
        refine ⟨W2, head ?_, h1.put (decide_eq_true q) f1 f2⟩
        rw [if_neg (by omega), if_neg (by omega), if_neg q.1]
        exact bdk e (e44 _)
      · refine ⟨W1, head ?_, h1.skip (decide_eq_false q)⟩
        rw [e44]
        by_cases q1 : ageS T (y : Int) < lo
        · rw [if_pos q1]
        · rw [if_neg q1]
          by_cases q2 : hi < ageS T (y : Int)
          · rw [if_pos q2]
          · rw [if_neg q2, if_pos (by omega)]
    obtain ⟨W2, e, h2⟩ := stp
    rw [e]
    exact ih (y + 1) f W2 (by omega) (by omega) h2
theorem x0_lr9 {s : Nat} {rv : Int} (h : NB b) (hw : WF T) (hs : (s : Int) < T 304) (hrv : -500 ≤ rv ∧ rv ≤ 500) : ∀ (d y f : Nat) (cc : Int) (I1 : Nat → Nat → Int), y + d = 1000 → d < f → ClsT 34 T I1 → AgesC T I1 → Fr (fun a _ => a = b + 31) I I1 → (∀ z, z < y → I1 (b + 31) z = misS T rv s z) →
    ∃ I', D_X0_layRings_9 f b (34 + 6 + 3 * s) rv cc (y : Nat) (st g n c I1 W p) = some (lmC T rv s d y cc, st g n c I' W p) ∧ Fr (fun a _ => a = b + 31) I I' ∧ ∀ z, z < 1000 → I' (b + 31) z = misS T rv s z := by
  have hn := hw.1
  intro d
  induction d with
  | zero =>
    intro y f cc I1 hy hf hT hA h1 h2
    obtain ⟨f, rfl⟩ : ∃ g, f = g + 1 := ⟨f - 1, by omega⟩
    have e : y = 1000 := by omega
    subst e
    exact ⟨I1, if_pos (by omega), h1, h2⟩
  | succ d ih =>
    intro y f cc I1 hy hf hT hA h1 h2
    obtain ⟨f, rfl⟩ : ∃ g, f = g + 1 := ⟨f - 1, by omega⟩
    have ue : ∀ a k, ¬ (a = b + 31) → u2 I1 (b + 31) y (misS T rv s y) a k = I1 a k := fun a k q => by rw [u2_def, if_neg (fun w => q w.1)]
    have hb : b = 188 ∨ b = 221 := h
    obtain ⟨I', e, g1, g2⟩ := ih (y + 1) f (if misS T rv s y = -1 then cc else if cc ≤ misS T rv s y then cc else misS T rv s y) (u2 I1 (b + 31) y (misS T rv s y)) (by omega) (by omega) (hT.fr (P := fun a _ => a = b + 31) hn ue (fun a k q => by omega)) (fun z hz => by rw [ue _ _ (by omega)]; exact hA z hz) (fun a k q => by rw [ue a k q]; exact h1 a k q) (fun z hz => by
      rw [u2_def]
      by_cases q : z = y
      · subst q; exact if_pos ⟨rfl, rfl⟩
      · rw [if_neg (fun w => q w.2)]; exact h2 z (by omega))
    refine ⟨I', ?_, g1, g2⟩
    have v : u2 I1 (b + 31) y (misS T rv s y) (b + 31) y = misS T rv s y := by rw [u2_def, if_pos ⟨rfl, rfl⟩]
    show (if (1000 : Int) ≤ (y : Nat) then _ else _) = some (lmC T rv s d (y + 1) _, _)
    rw [if_neg (by omega)]
    refine bdk (n0R11 h) (bdk (n0T h) (bdk (x0_misfit h hw hT hA hs (by omega) hrv) (bdk (n0S31 h (by omega) (by omega)) (bdk (n0R11 h) (bdk (n0L31 h (by omega) (by omega)) ?_)))))
    rw [toN, v]
    unfold D_X0_layRings_65
    rw [mw_n (by omega)]
    generalize hcc : (if misS T rv s y = -1 then cc else if cc ≤ misS T rv s y then cc else misS T rv s y) = c2 at e ⊢
    by_cases q : misS T rv s y = -1
    · rw [if_pos q] at hcc ⊢; subst hcc; exact e
    · rw [if_neg q] at hcc ⊢
      refine bdk (n0R11 h) (bdk (n0L31 h (by omega) (by omega)) ?_)
      rw [toN, v]
      by_cases q2 : cc ≤ misS T rv s y
      · rw [if_pos q2] at hcc ⊢; subst hcc; exact e
      · rw [if_neg q2] at hcc ⊢
        refine bdk (n0R11 h) (bdk (n0L31 h (by omega) (by omega)) ?_)
        rw [toN, v]
        subst hcc
        exact e
theorem x0_lr74 {a s : Nat} {sl lm rv : Int} (h : NB b) (ha : HC g a = (52, 16)) (hm : ∀ z, z < 1000 → I (b + 31) z = misS T rv s z) (hr : -2147483648 ≤ lm + sl ∧ lm + sl < 2147483648) : ∀ (d y f : Nat) (W1 : Nat → Nat → BitVec 64), y + d = 1000 → d < f → PutAt a (fun z => decide (misS T rv s z ≠ -1 ∧ misS T rv s z ≤ lm + sl)) y W W1 →
    ∃ W', D_X0_layRings_74 f b a sl lm (y : Nat) (st g n c I W1 p) = some (st g n c I W' p) ∧ PutAt a (fun z => decide (misS T rv s z ≠ -1 ∧ misS T rv s z ≤ lm + sl)) 1000 W W' := by
  intro d
  induction d with
  | zero =>
    intro y f W1 hy hf h1
    obtain ⟨f, rfl⟩ : ∃ g, f = g + 1 := ⟨f - 1, by omega⟩
    have e : y = 1000 := by omega
    subst e
    exact ⟨W1, if_pos (by omega), h1⟩
  | succ d ih =>
    intro y f W1 hy hf h1
    obtain ⟨f, rfl⟩ : ∃ g, f = g + 1 := ⟨f - 1, by omega⟩
    have stp : ∃ W2, D_X0_layRings_74 (f + 1) b a sl lm (y : Nat) (st g n c I W1 p) = D_X0_layRings_74 f b a sl lm ((y + 1 : Nat) : Int) (st g n c I W2 p) ∧ PutAt a (fun z => decide (misS T rv s z ≠ -1 ∧ misS T rv s z ≤ lm + sl)) (y + 1) W W2 := by
      have e44 : ∀ σ, D_X0_layRings_113 (D_X0_layRings_74 f) b a sl lm (y : Int) σ = D_X0_layRings_74 f b a sl lm ((y + 1 : Nat) : Int) σ := fun σ => by unfold D_X0_layRings_113; rw [mw_n (by omega)]
      have head : ∀ {R : Option mS}, (if misS T rv s y = (-1) then D_X0_layRings_113 (D_X0_layRings_74 f) b a sl lm (y : Int) (st g n c I W1 p) else if lm + sl < misS T rv s y then D_X0_layRings_113 (D_X0_layRings_74 f) b a sl lm (y : Int) (st g n c I W1 p) else
          (D_X7_put a (y : Int) (st g n c I W1 p)).bind fun r5 => D_X0_layRings_113 (D_X0_layRings_74 f) b a sl lm (y : Int) r5) = R → D_X0_layRings_74 (f + 1) b a sl lm (y : Nat) (st g n c I W1 p) = R := by
        intro R hh
        show (if (1000 : Int) ≤ (y : Nat) then _ else _) = _
        rw [if_neg (by omega)]
        refine bdk (n0R11 h) (bdk (n0L31 h (by omega) (by omega)) ?_)
        rw [toN, hm y (by omega)]
        by_cases q : misS T rv s y = -1
        · rw [if_pos q] at hh ⊢; exact hh
        · rw [if_neg q] at hh ⊢
          refine bdk (n0R11 h) (bdk (n0L31 h (by omega) (by omega)) ?_)
          rw [toN, hm y (by omega), mw_of (x := lm + sl) hr.1 hr.2]
          exact hh
      by_cases q : misS T rv s y ≠ -1 ∧ misS T rv s y ≤ lm + sl
      · obtain ⟨W2, e, f1, f2⟩ := put_k (n := n) (c := c) (I := I) (W := W1) (p := p) ha (y := y) (by omega)
        refine ⟨W2, head ?_, h1.put (decide_eq_true q) f1 f2⟩
        rw [if_neg q.1, if_neg (by omega)]
        exact bdk e (e44 _)
      · refine ⟨W1, head ?_, h1.skip (decide_eq_false q)⟩
        rw [e44]
        by_cases q1 : misS T rv s y = -1
        · rw [if_pos q1]
        · rw [if_neg q1, if_pos (by omega)]
    obtain ⟨W2, e, h2⟩ := stp
    rw [e]
    exact ih (y + 1) f W2 (by omega) (by omega) h2
theorem put_first {a : Nat} {P F : Nat → Bool} {W0 W1 : Nat → Nat → BitVec 64} (h : PutAt a P 1000 W0 W1) (hp : ∀ z, z < 1000 → P z = F z) : ∀ y, y < 1024 → wb (W1 a) y = (decide (y < 1000) && F y) := by
  intro y hy
  rw [h.2 y hy]
  by_cases q : y < 1000
  · rw [hp y q]
  · rw [decide_eq_false q, Bool.false_and, Bool.false_and]
/-- one sample's first span -/
theorem x0_lay1 {s : Nat} {sg rv : Int} (h : NB b) (hw : WF T) (hT : ClsT 34 T I) (hA : AgesC T I) (hs : (s : Int) < T 304) (hsg : 1 ≤ sg ∧ sg ≤ 3) (hrv : -500 ≤ rv ∧ rv ≤ 500) (X : mS → Option mS) :
    ∃ I' W', ((D_X7_clear (b + 2 + s) (st g n c I W p)).bind fun r8 =>
      (gI r8 (34 + 6 + 3 * s) 4 0).bind fun v9 =>
      if v9 = 0 then
        (gI r8 (34 + 6 + 3 * s) 4 1).bind fun v10 =>
        (gR r8 b 0 2).bind fun v11 =>
        (lR r8 v11 (s : Int)).bind fun v12 =>
        (gI r8 (34 + 6 + 3 * s) 4 2).bind fun v13 =>
        (gI r8 (34 + 6 + 3 * s) 4 2).bind fun v14 =>
        (tgO r8 b 0).bind fun _ =>
        (D_X0_layDated b v12 (mw ((mw (v10 - rv)) - (mw (sg * v13)))) (mw ((mw (v10 - rv)) + (mw (sg * v14)))) r8).bind fun r15 =>
        X r15
      else
        (gR r8 b 0 2).bind fun v16 =>
        (lR r8 v16 (s : Int)).bind fun v17 =>
        (gI r8 (34 + 6 + 3 * s) 4 1).bind fun v18 =>
        (tgO r8 b 0).bind fun _ =>
        (D_X0_layRings b (34 + 6 + 3 * s) v17 (mw (sg * v18)) rv r8).bind fun r19 =>
        X r19) = X (st g n c I' W' p) ∧ (∀ x, x ≠ b + 2 + s → W' x = W x) ∧ (∀ y, y < 1024 → wb (W' (b + 2 + s)) y = (decide (y < 1000) && firstS T sg rv s y)) ∧ Fr (fun a _ => a = b + 31) I I' := by
  have hn := hw.1
  have hk := hw.2.1
  have hn' := hn
  unfold WFn at hn'
  have s12 : s < 12 := by omega
  have sm : s < nSa T := by unfold nSa; omega
  have ts := (hT.2.2.1 s sm).1
  have hm := fun y : Nat => misS_rng (rv := rv) hw hs hrv (y : Int)
  generalize hW0 : (fun b' k => if b' = b + 2 + s ∧ k < 16 then (0 : BitVec 64) else W b' k) = W0
  have w0 : ∀ x, x ≠ b + 2 + s → W0 x = W x := fun x hx => by rw [← hW0]; funext k; exact if_neg (fun q => hx q.1)
  have e0 : D_X7_clear (b + 2 + s) (st g n c I W p) = some (st g n c I W0 p) := by rw [← hW0]; exact clear_k (n0H2 h s12)
  have P0 : ∀ P, PutAt (b + 2 + s) P 0 W W0 := fun P => ⟨w0, fun z hz => by
    rw [decide_eq_false (by omega : ¬ z < 0), Bool.false_and, ← hW0]
    exact clear_wb z hz⟩
  rcases hw.2.2.1 s hs with ⟨k0, a, b'⟩ | ⟨k1, a, b', d⟩
  · have m1 : 0 ≤ sg * tSa T s 2 := Int.mul_nonneg (by omega) (by omega)
    have m2 : sg * tSa T s 2 ≤ 3 * tSa T s 2 := Int.mul_le_mul_of_nonneg_right (by omega) (by omega)
    obtain ⟨W', e, h1⟩ := x0_ld3 (n := n) (c := c) (p := p) (g := g) (lo := tSa T s 1 - rv - sg * tSa T s 2) (hi := tSa T s 1 - rv + sg * tSa T s 2) h (n0H2 h s12) hA 1000 0 mFU W0 rfl (by decide) (P0 _)
    refine ⟨I, W', ?_, h1.1, put_first h1 (fun z hz => ?_), Fr.rfl'⟩
    · refine bdk e0 (bdk (t4I TB34 s12) ?_)
      rw [ts.1, if_pos k0]
      refine bdk (t4I TB34 s12) (bdk (n0R2 h) (bdk (n0A1 h (by omega) (by omega)) (bdk (t4I TB34 s12) (bdk (t4I TB34 s12) (bdk (n0T h) ?_)))))
      rw [ts.2.1, ts.2.2, mw_of (x := tSa T s 1 - rv) (by omega) (by omega), mw_of (x := sg * tSa T s 2) (by omega) (by omega), mw_of (x := tSa T s 1 - rv - _) (by omega) (by omega), mw_of (x := tSa T s 1 - rv + _) (by omega) (by omega)]
      exact bdk (bdk e rfl) rfl
    · unfold firstS misS
      rw [if_pos k0, if_pos k0, decide_eq_decide]
      have ar := ageS_rng hn hk (z : Int)
      by_cases q : ageS T (z : Int) = -1
      · rw [if_pos q]
        omega
      · rw [if_neg q]
        unfold absI
        split <;> omega
  · have m1 : 0 ≤ sg * tSa T s 1 := Int.mul_nonneg (by omega) (by omega)
    have m2 : sg * tSa T s 1 ≤ 3 * tSa T s 1 := Int.mul_le_mul_of_nonneg_right (by omega) (by omega)
    obtain ⟨I', e9, f9, v9⟩ := x0_lr9 (n := n) (c := c) (W := W0) (p := p) (g := g) (I := I) h hw hs hrv 1000 0 mFU (2147483647 - sg * tSa T s 1) I rfl (by decide) hT hA Fr.rfl' (fun z hz => by omega)
    have rel := lmC_rel (big := 2147483647 - sg * tSa T s 1) hm (by omega) 1000 0 (-1) (2147483647 - sg * tSa T s 1) (Or.inl ⟨rfl, rfl⟩)
    have lr := lmS_rng (rv := rv) hw hs hrv 1000 0 (-1) (by omega)
    have no := fun w => (lmS_none hm 1000 0 (-1) w).2
    have eS : leastS T rv s = lmS T rv s 1000 0 (-1) := rfl
    generalize lmC T rv s 1000 0 (2147483647 - sg * tSa T s 1) = L at e9 rel
    generalize lmS T rv s 1000 0 (-1) = M at rel lr no eS
    obtain ⟨W', e, h1⟩ := x0_lr74 (n := n) (c := c) (I := I') (p := p) (g := g) (sl := sg * tSa T s 1) (lm := L) h (n0H2 h s12) v9 (by omega) 1000 0 mFU W0 rfl (by decide) (P0 _)
    refine ⟨I', W', ?_, h1.1, put_first h1 (fun z hz => ?_), f9⟩
    · refine bdk e0 (bdk (t4I TB34 s12) ?_)
      rw [ts.1, if_neg (by omega)]
      refine bdk (n0R2 h) (bdk (n0A1 h (by omega) (by omega)) (bdk (t4I TB34 s12) (bdk (n0T h) ?_)))
      rw [ts.2.1, mw_of (x := sg * tSa T s 1) (by omega) (by omega)]
      refine bdk ?_ rfl
      unfold D_X0_layRings
      rw [mw_of (x := 2147483647 - sg * tSa T s 1) (by omega) (by omega)]
      exact bdk e9 (bdk e rfl)
    · unfold firstS
      rw [if_neg (by omega : ¬ tSa T s 0 = 0), decide_eq_decide, eS]
      rcases rel with ⟨r1, r2⟩ | ⟨r1, r2⟩
      · have := no r1 z (by omega) (by omega)
        omega
      · rw [r2]
theorem x0_lf2 {sg rv : Int} (h : NB b) (hw : WF T) (hsg : 1 ≤ sg ∧ sg ≤ 3) (hrv : -500 ≤ rv ∧ rv ≤ 500) : ∀ (d s f : Nat) (I1 : Nat → Nat → Int) (W1 : Nat → Nat → BitVec 64), (s : Int) + d = T 304 → d < f → ClsT 34 T I1 → AgesC T I1 → (∀ t, t < s → ∀ y, y < 1024 → wb (W1 (b + 2 + t)) y = (decide (y < 1000) && firstS T sg rv t y)) →
    ∃ I' W', D_X0_layFirst_2 f b sg rv (s : Nat) (st g n c I1 W1 p) = some (st g n c I' W' p) ∧ FirstC b (nSa T) (fun s y => firstS T sg rv s y) W' ∧ (∀ x, ¬ (b + 2 ≤ x ∧ x < b + 2 + nSa T) → W' x = W1 x) ∧ Fr (fun a _ => a = b + 31) I1 I' := by
  have hn := hw.1
  have hn' := hn
  unfold WFn at hn'
  have hb : b = 188 ∨ b = 221 := h
  intro d
  induction d with
  | zero =>
    intro s f I1 W1 hs hf hT hA hp
    obtain ⟨f, rfl⟩ : ∃ g, f = g + 1 := ⟨f - 1, by omega⟩
    refine ⟨I1, W1, bdk (n0R0 h) (bdk (t5I TB34) ?_), fun t ht => hp t (by unfold nSa at ht; omega), fun _ _ => rfl, Fr.rfl'⟩
    rw [hT.1.2.2.2.1]
    exact if_pos (by omega)
  | succ d ih =>
    intro s f I1 W1 hs hf hT hA hp
    obtain ⟨f, rfl⟩ : ∃ g, f = g + 1 := ⟨f - 1, by omega⟩
    obtain ⟨I2, W2, e, g1, g2, g3⟩ := x0_lay1 (n := n) (c := c) (I := I1) (W := W1) (p := p) (g := g) (s := s) h hw hT hA (by omega) hsg hrv (fun σ => D_X0_layFirst_103 (D_X0_layFirst_2 f) b sg rv (s : Int) σ)
    obtain ⟨I3, W3, e3, k1, k2, k3⟩ := ih (s + 1) f I2 W2 (by omega) (by omega) (hT.fr hn g3 (fun a k q => by omega)) (fun z hz => by rw [g3 _ _ (by omega)]; exact hA z hz) (fun t ht y hy => by
      by_cases q : t = s
      · subst q; exact g2 y hy
      · rw [g1 _ (by omega)]; exact hp t (by omega) y hy)
    refine ⟨I3, W3, bdk (n0R0 h) (bdk (t5I TB34) ?_), k1, fun x hx => by rw [k2 x hx, g1 x (by unfold nSa at hx; omega)], Fr.trans' g3 k3⟩
    rw [hT.1.2.2.2.1, if_neg (by omega)]
    refine bdk (n0R0 h) (bdk (t5R8 TB34) (bdk (t5A3 TB34 (by omega) (by omega)) (bdk (n0R2 h) (bdk (n0A1 h (by omega) (by omega)) ?_))))
    refine Eq.trans e ?_
    show D_X0_layFirst_103 (D_X0_layFirst_2 f) b sg rv (s : Int) (st g n c I2 W2 p) = _
    unfold D_X0_layFirst_103
    rw [mw_n (by omega)]
    exact e3
theorem x0_layFirstS {sg rv : Int} (h : NB b) (hw : WF T) (hT : ClsT 34 T I) (hA : AgesC T I) (hsg : 1 ≤ sg ∧ sg ≤ 3) (hrv : -500 ≤ rv ∧ rv ≤ 500) :
    ∃ I' W', D_X0_layFirst b sg rv (st g n c I W p) = some (st g n c I' W' p) ∧ FirstC b (nSa T) (fun s y => firstS T sg rv s y) W' ∧ (∀ x, ¬ (b + 2 ≤ x ∧ x < b + 2 + nSa T) → W' x = W x) ∧ Fr (fun a _ => a = b + 31) I I' := by
  have hn' := hw.1
  unfold WFn at hn'
  obtain ⟨I', W', e, r⟩ := x0_lf2 (n := n) (c := c) (p := p) (g := g) h hw hsg hrv (nSa T) 0 mFU I W (by unfold nSa; omega) (by unfold nSa mFU; omega) hT hA (fun t ht => by omega)
  exact ⟨I', W', bdk e rfl, r⟩
theorem x0_layFirst {sg rv : Int} (h : NB b) (hw : WF T) (hT : ClsT 34 T I) (hA : AgesC T I) (hsg : 1 ≤ sg ∧ sg ≤ 3) (hrv : -500 ≤ rv ∧ rv ≤ 500) :
    ∃ I' W', D_X0_layFirst b sg rv (st g n c I W p) = some (st g n c I' W' p) ∧ FirstC b (nSa T) (fun s y => firstS T sg rv s y) W' ∧ (∀ x, ¬ (b + 2 ≤ x ∧ x < b + 14) → W' x = W x) ∧ Fr (fun a _ => a = b + 31) I I' := by
  have hn' := hw.1
  unfold WFn at hn'
  obtain ⟨I', W', e, r1, r2, r3⟩ := x0_layFirstS (n := n) (c := c) (I := I) (W := W) (p := p) (g := g) h hw hT hA hsg hrv
  exact ⟨I', W', e, r1, fun x hx => r2 x (by unfold nSa; omega), r3⟩
end CG
