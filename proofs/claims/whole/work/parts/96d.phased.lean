/-! THE PURE PART: phases and their members, asked on both sides -/
abbrev PhT : Type := Int × Int × Int × Int × Int
def phS1 (lo hi : Nat → Int) (a : Nat) (r : PhT) : PhT :=
  if lo a = -1 then (r.1, r.2.1, r.2.2.1, r.2.2.2.1, 1)
  else (if r.1 = -1 then lo a else if lo a < r.1 then lo a else r.1, if r.2.1 < hi a then hi a else r.2.1, if r.2.2.1 < lo a then lo a else r.2.2.1, if hi a < r.2.2.2.1 then hi a else r.2.2.2.1, r.2.2.2.2)
def phS (lo hi : Nat → Int) (m : Nat → Nat) : Nat → Nat → PhT → PhT
  | 0, _, r => r
  | d + 1, k, r => phS lo hi m d (k + 1) (phS1 lo hi (m k) r)
/-- the two ways to begin come to the same -/
def PhR (a b : PhT) : Prop := a.1 = b.1 ∧ a.2.1 = b.2.1 ∧ a.2.2.1 = (if b.2.2.1 < 0 then 0 else b.2.2.1) ∧ a.2.2.2.1 = (if 999 < b.2.2.2.1 then 999 else b.2.2.2.1) ∧ a.2.2.2.2 = b.2.2.2.2
theorem PhR.step {lo hi : Nat → Int} {a b : PhT} {x : Nat} (hl : -1 ≤ lo x ∧ lo x ≤ 999) (hh : -1 ≤ hi x ∧ hi x ≤ 999) (h : PhR a b) : PhR (phS1 lo hi x a) (phS1 lo hi x b) := by
  obtain ⟨h1, h2, h3, h4, h5⟩ := h
  unfold phS1
  by_cases q : lo x = -1
  · rw [if_pos q, if_pos q]
    exact ⟨h1, h2, h3, h4, rfl⟩
  · rw [if_neg q, if_neg q]
    refine ⟨?_, ?_, ?_, ?_, h5⟩
    · show (if a.1 = -1 then lo x else if lo x < a.1 then lo x else a.1) = _
      rw [h1]
    · show (if a.2.1 < hi x then hi x else a.2.1) = _
      rw [h2]
    · show (if a.2.2.1 < lo x then lo x else a.2.2.1) = (if (if b.2.2.1 < lo x then lo x else b.2.2.1) < 0 then 0 else (if b.2.2.1 < lo x then lo x else b.2.2.1))
      rw [h3]
      generalize b.2.2.1 = z
      by_cases z1 : z < 0
      · rw [if_pos z1, if_pos (show z < lo x by omega), if_neg (show ¬ lo x < 0 by omega)]
        by_cases z2 : 0 < lo x
        · rw [if_pos z2]
        · rw [if_neg z2]; omega
      · rw [if_neg z1]
        by_cases z2 : z < lo x
        · rw [if_pos z2, if_neg (by omega)]
        · rw [if_neg z2, if_neg z1]
    · show (if hi x < a.2.2.2.1 then hi x else a.2.2.2.1) = (if 999 < (if hi x < b.2.2.2.1 then hi x else b.2.2.2.1) then 999 else (if hi x < b.2.2.2.1 then hi x else b.2.2.2.1))
      rw [h4]
      generalize b.2.2.2.1 = z
      by_cases z1 : 999 < z
      · rw [if_pos z1, if_pos (show hi x < z by omega), if_neg (show ¬ 999 < hi x by omega)]
        by_cases z2 : hi x < 999
        · rw [if_pos z2]
        · rw [if_neg z2]; omega
      · rw [if_neg z1]
        by_cases z2 : hi x < z
        · rw [if_pos z2, if_neg (by omega)]
        · rw [if_neg z2, if_neg z1]
/-- behind a sample with years the bounds are bounds -/
def PhB (b : PhT) : Prop := b.2.2.2.2 = 0 → 0 ≤ b.2.2.1 ∧ b.2.2.2.1 ≤ 999
theorem PhB.step {lo hi : Nat → Int} {b : PhT} {x : Nat} (hl : -1 ≤ lo x ∧ lo x ≤ 999) (hh : -1 ≤ hi x ∧ hi x ≤ 999) : PhB (phS1 lo hi x b) := by
  unfold phS1 PhB
  by_cases q : lo x = -1
  · rw [if_pos q]
    intro w
    exact absurd w (show ¬ (1 : Int) = 0 by decide)
  · rw [if_neg q]
    intro _
    constructor
    · show 0 ≤ (if b.2.2.1 < lo x then lo x else b.2.2.1)
      by_cases z : b.2.2.1 < lo x
      · rw [if_pos z]; omega
      · rw [if_neg z]; omega
    · show (if hi x < b.2.2.2.1 then hi x else b.2.2.2.1) ≤ 999
      by_cases z : hi x < b.2.2.2.1
      · rw [if_pos z]; omega
      · rw [if_neg z]; omega
theorem phS_rel {lo hi : Nat → Int} {m : Nat → Nat} (hr : ∀ s, (-1 ≤ lo s ∧ lo s ≤ 999) ∧ -1 ≤ hi s ∧ hi s ≤ 999) : ∀ (d k : Nat) (a b : PhT), PhR a b → (d ≠ 0 ∨ PhB b) → PhR (phS lo hi m d k a) (phS lo hi m d k b) ∧ PhB (phS lo hi m d k b) := by
  intro d
  induction d with
  | zero => intro k a b h hb; exact ⟨h, hb.resolve_left (fun w => w rfl)⟩
  | succ d ih => intro k a b h _; exact ih (k + 1) _ _ (h.step (hr _).1 (hr _).2) (Or.inr (PhB.step (hr _).1 (hr _).2))
def phV (r : PhT) (x : Int) : Int := if 2 < x then (if r.2.2.2.2 = 0 then (if x = 3 then (if 0 < mw (r.2.2.1 - r.2.2.2.1) then mw (r.2.2.1 - r.2.2.2.1) else 0) else mw (r.2.1 - r.1)) else -1) else if x = 1 then r.1 else r.2.1
theorem phV_rel {a b : PhT} {x : Int} (h : PhR a b) (hb : PhB b) : phV a x = phV b x := by
  obtain ⟨h1, h2, h3, h4, h5⟩ := h
  unfold phV
  rw [h5]
  by_cases q : b.2.2.2.2 = 0
  · obtain ⟨g1, g2⟩ := hb q
    rw [if_neg (by omega)] at h3 h4
    rw [h1, h2, h3, h4]
  · rw [if_neg q, if_neg q, h1, h2]
section PH
variable {g : Bool} {n : Nat} {c : Nat × Nat × Nat × Nat} {I : Nat → Nat → Int} {W : Nat → Nat → BitVec 64} {p : Nat → Nat} {T : Td} {lo hi : Nat → Int}
theorem x0_ph19 {q : Nat} (hl : ∀ s, LoP (lft T s) 1000 (lo s) ∧ HiP (lft T s) 1000 (hi s)) (hw : WF T) (hT : ClsT 34 T I) (hN : NowC T I W) (hq : (q : Int) < T 305) : ∀ (d k f : Nat) (r : PhT), (k : Int) + d = T (350 + q) → d < f →
    D_X0_ofPhase_19 f 188 (34 + 42 + 2 * q) r.1 r.2.1 r.2.2.1 r.2.2.2.1 r.2.2.2.2 (k : Int) (st g n c I W p) = some (phS lo hi (tPm T q) d k r) := by
  have hw' := hw.1
  unfold WFn at hw'
  have q4 : q < 4 := by omega
  have hP := hT.2.2.2.1 q (by unfold nPh; omega)
  obtain ⟨w1, w2, -⟩ := hw.2.2.2.1 q hq
  intro d
  induction d with
  | zero =>
    intro k f r hk hf
    obtain ⟨f, rfl⟩ : ∃ g, f = g + 1 := ⟨f - 1, by omega⟩
    refine bdk (t1I TB34 q4) ?_
    rw [hP.1, if_pos (by omega)]
    rfl
  | succ d ih =>
    intro k f r hk hf
    obtain ⟨f, rfl⟩ : ∃ g, f = g + 1 := ⟨f - 1, by omega⟩
    have wk := w2 k (by omega)
    have et : T (360 + 6 * q + k) = ((tPm T q k : Nat) : Int) := by unfold tPm; omega
    have hs : tPm T q k < nSa T := by unfold nSa; omega
    have hs12 : tPm T q k < 12 := by unfold nSa at hs; omega
    have hz := hN.2.1.2.1.2.1 (tPm T q k) hs
    have z1 : I (188 + 28) (tPm T q k) = lo (tPm T q k) := hz.2.1.uniq (hl _).1
    have z2 : I (188 + 29) (tPm T q k) = hi (tPm T q k) := hz.2.2.uniq (hl _).2
    have e := (hl (tPm T q k)).1.emp
    have z0 : I (188 + 27) (tPm T q k) = ((ct (lft T (tPm T q k)) 1000 : Nat) : Int) := hz.1
    refine bdk (t1I TB34 q4) ?_
    rw [hP.1, if_neg (by omega)]
    refine bdk (t1R1 TB34 q4) (bdk (t1L1 TB34 q4 (by omega) (by omega)) ?_)
    rw [toN, hP.2 k (by omega), et]
    refine bdk (n0R4 nb188) (bdk (n0L27 nb188 (by omega) (by omega)) ?_)
    rw [toN, z0]
    show (if ((ct (lft T (tPm T q k)) 1000 : Nat) : Int) ≠ 0 then _ else _) = some (phS lo hi (tPm T q) d (k + 1) (phS1 lo hi (tPm T q k) r))
    by_cases c0 : ct (lft T (tPm T q k)) 1000 = 0
    · rw [if_neg (by omega)]
      unfold D_X0_ofPhase_122
      rw [mw_n (by omega)]
      have := ih (k + 1) f (phS1 lo hi (tPm T q k) r) (by omega) (by omega)
      unfold phS1 at this ⊢
      rw [if_pos (e.2 c0)] at this ⊢
      exact this
    · rw [if_pos (by omega)]
      have nl : ¬ lo (tPm T q k) = -1 := fun w => c0 (e.1 w)
      have := ih (k + 1) f (phS1 lo hi (tPm T q k) r) (by omega) (by omega)
      unfold phS1 at this ⊢
      rw [if_neg nl] at this ⊢
      have tail : ∀ v : Int, v = (if r.1 = -1 then lo (tPm T q k) else if lo (tPm T q k) < r.1 then lo (tPm T q k) else r.1) → D_X0_ofPhase_79 (D_X0_ofPhase_19 f) 188 (34 + 42 + 2 * q) r.2.1 r.2.2.1 r.2.2.2.1 r.2.2.2.2 (k : Int) ((tPm T q k : Nat) : Int) v (st g n c I W p) = some (phS lo hi (tPm T q) d (k + 1) (if r.1 = -1 then lo (tPm T q k) else if lo (tPm T q k) < r.1 then lo (tPm T q k) else r.1, if r.2.1 < hi (tPm T q k) then hi (tPm T q k) else r.2.1, if r.2.2.1 < lo (tPm T q k) then lo (tPm T q k) else r.2.2.1, if hi (tPm T q k) < r.2.2.2.1 then hi (tPm T q k) else r.2.2.2.1, r.2.2.2.2)) := by
        intro v hv
        subst hv
        unfold D_X0_ofPhase_79 D_X0_ofPhase_122
        refine bdk (n0R6 nb188) (bdk (n0L29 nb188 (by omega) (by omega)) (bdk (n0R5 nb188) (bdk (n0L28 nb188 (by omega) (by omega)) (bdk (n0R6 nb188) (bdk (n0L29 nb188 (by omega) (by omega)) ?_)))))
        rw [toN, z1, z2, mw_n (by omega)]
        exact this
      by_cases c1 : r.1 = -1
      · rw [if_neg (fun w => w c1)]
        refine bdk (n0R5 nb188) (bdk (n0L28 nb188 (by omega) (by omega)) ?_)
        rw [toN, z1]
        exact tail _ (by rw [if_pos c1])
      · rw [if_pos c1]
        refine bdk (n0R5 nb188) (bdk (n0L28 nb188 (by omega) (by omega)) ?_)
        rw [toN, z1]
        exact tail _ (by rw [if_neg c1])
theorem x0_ofPhase {q : Nat} {x : Int} (hl : ∀ s, LoP (lft T s) 1000 (lo s) ∧ HiP (lft T s) 1000 (hi s)) (hw : WF T) (hT : ClsT 34 T I) (hN : NowC T I W) (hq : (q : Int) < T 305) :
    D_X0_ofPhase 188 (34 + 42 + 2 * q) x (st g n c I W p) = some (phV (phS lo hi (tPm T q) (tPn T q) 0 (-1, -1, 0, 999, 0)) x) := by
  obtain ⟨w1, w2, -⟩ := hw.2.2.2.1 q hq
  have h := x0_ph19 (g := g) (n := n) (c := c) (I := I) (W := W) (p := p) hl hw hT hN hq (tPn T q) 0 mFU (-1, -1, 0, 999, 0) (by unfold tPn; omega) (by unfold tPn mFU; omega)
  unfold D_X0_ofPhase
  refine bdk h ?_
  generalize phS lo hi (tPm T q) (tPn T q) 0 (-1, -1, 0, 999, 0) = r
  unfold phV D_X0_ofPhase_173 D_X0_ofPhase_144
  show (if 2 < x then (if r.2.2.2.2 = 0 then _ else _) else _) = _
  by_cases c2 : 2 < x
  · rw [if_pos c2, if_pos c2]
    by_cases c3 : r.2.2.2.2 = 0
    · rw [if_pos c3, if_pos c3]
      by_cases c4 : x = 3
      · rw [if_neg (fun w => w c4), if_pos c4]
      · rw [if_pos c4, if_neg c4]
    · rw [if_neg c3, if_neg c3]
  · rw [if_neg c2, if_neg c2]
    by_cases c4 : x = 1
    · rw [if_neg (fun w => w c4), if_pos c4]
    · rw [if_pos c4, if_neg c4]
/-- the answer -/
def phA (T : Td) (lo hi : Nat → Int) (q : Nat) (x : Int) : Int := if x = 0 then T (350 + q) else phV (phS lo hi (tPm T q) (tPn T q) 0 (-1, -1, 0, 999, 0)) x
theorem x8_phase {q x : Int} (hl : ∀ s, LoP (lft T s) 1000 (lo s) ∧ HiP (lft T s) 1000 (hi s)) (hw : WF T) (hT : ClsT 34 T I) (hN : NowC T I W) :
    D_X8_phase 32 q x (st g n c I W p) = if 0 ≤ q ∧ q < T 305 then (if 0 ≤ x ∧ x ≤ 4 then some (Sum.inl (phA T lo hi q.toNat x), st g n c I W p) else some (Sum.inr 1, st g n (xc c) (rI I 1) W p)) else some (Sum.inr 0, st g n (xc c) (rI I 0) W p) := by
  have hw' := hw.1
  unfold WFn at hw'
  have no : D_X8_phase_19 32 q x 32 (st g n c I W p) = some (Sum.inr 1, st g n (xc c) (rI I 1) W p) := by
    unfold D_X8_phase_19 D_X8_phase_20
    exact bdk z8T (bdk need0 rfl)
  unfold D_X8_phase
  refine bdk z8T ?_
  rw [needPhase_k hT]
  by_cases c : 0 ≤ q ∧ q < T 305
  · rw [if_pos c, if_pos c]
    refine bdk rfl ?_
    show (if x < 0 then _ else _) = _
    by_cases q1 : x < 0
    · rw [if_pos q1, if_neg (by omega)]; exact no
    rw [if_neg q1]
    by_cases q2 : 4 < x
    · rw [if_pos q2, if_neg (by omega)]; exact no
    rw [if_neg q2, if_pos (by omega)]
    obtain ⟨q, rfl⟩ := Int.eq_ofNat_of_zero_le c.1
    rw [toN]
    unfold D_X8_phase_20 D_X8_phase_59 phA
    refine bdk z8T (bdk need1 ?_)
    show (if x ≠ 0 then _ else _) = _
    by_cases c0 : x = 0
    · rw [if_neg (fun w => w c0), if_pos c0]
      refine bdk z8R1 (bdk (t5R9 TB34) (bdk (t5A4 TB34 (by omega) (by omega)) ?_))
      rw [toN]
      refine bdk (t1I TB34 (by omega)) ?_
      rw [(hT.2.2.2.1 q (by unfold nPh; omega)).1]
    · rw [if_pos c0, if_neg c0]
      refine bdk z8R9 (bdk z8R1 (bdk (t5R9 TB34) (bdk (t5A4 TB34 (by omega) (by omega)) ?_)))
      rw [toN]
      exact bdk (n0T nb188) (bdk (x0_ofPhase hl hw hT hN (by omega)) rfl)
  · rw [if_neg c, if_neg c]
    exact bdk rfl rfl
end PH
section PJ
variable {n : Nat} {c : Nat × Nat × Nat × Nat} {I : Nat → Nat → Int} {W : Nat → Nat → BitVec 64} {p : Nat → Nat} {T : Td} {lo hi : Nat → Int}
theorem isPhase_k {q : Int} (hw : WFn T) (hT : RefT T I) (h0 : I 1170 0 = 0) : D_X9_isPhase 1170 q (st true n c I W p) = if 0 ≤ q ∧ q < T 305 then some (1, st true n c I W p) else some (0, st true n c (rJ I 1 0) W p) := by
  unfold WFn at hw
  unfold D_X9_isPhase
  refine bdk z9I ?_
  rw [hT.2.2.2.1, mw_of (by omega) (by omega)]
  refine bdk within_k (bdk z9T ?_)
  by_cases q2 : 0 ≤ q ∧ q < T 305
  · rw [if_pos (show 0 ≤ q ∧ q ≤ T 305 - 1 by omega), if_pos q2]
    exact bdk (fine1 h0) (bdk (x := (1 : Int)) rfl rfl)
  · rw [if_neg (show ¬ (0 ≤ q ∧ q ≤ T 305 - 1) by omega), if_neg q2]
    exact bdk (fine0 (kind := 0) (by decide) (by decide) h0) (bdk (x := (0 : Int)) rfl rfl)
theorem x9_ph64 {q : Nat} (hl : ∀ s, LoP (lft T s) 1000 (lo s) ∧ HiP (lft T s) 1000 (hi s)) (hw : WF T) (hT : RefT T I) (hS : ∀ t, t < nSa T → ∀ y, y < 1000 → I (1193 + t) y = bI (lft T t y)) (hq : (q : Int) < T 305) : ∀ (d k f : Nat) (r : PhT), (k : Int) + d = T (350 + q) → d < f → (r.2.2.2.2 = 0 ∨ r.2.2.2.2 = 1) →
    D_X9_phase_64 f 1170 (q : Int) r.1 r.2.1 r.2.2.1 r.2.2.2.1 r.2.2.2.2 (k : Int) (st true n c I W p) = some (phS lo hi (tPm T q) d k r) := by
  have hw' := hw.1
  unfold WFn at hw'
  have q4 : q < 4 := by omega
  obtain ⟨w1, w2, -⟩ := hw.2.2.2.1 q hq
  have hP := hT.2.2.2.2.2.2.1 q q4
  intro d
  induction d with
  | zero =>
    intro k f r hk hf _
    obtain ⟨f, rfl⟩ : ∃ g, f = g + 1 := ⟨f - 1, by omega⟩
    refine bdk z9R11 (bdk (z9L11 (by omega) (by omega)) ?_)
    rw [toN, hP, if_pos (by omega)]
    rfl
  | succ d ih =>
    intro k f r hk hf h01
    obtain ⟨f, rfl⟩ : ∃ g, f = g + 1 := ⟨f - 1, by omega⟩
    have wk := w2 k (by omega)
    have et : T (360 + 6 * q + k) = ((tPm T q k : Nat) : Int) := by unfold tPm; omega
    have hs : tPm T q k < nSa T := by unfold nSa; omega
    have hs12 : tPm T q k < 12 := by unfold nSa at hs; omega
    have em := x9_memberOf (n := n) (c := c) (I := I) (W := W) (p := p) (q := q) (k := k) q4 (by omega) hT
    rw [et] at em
    obtain ⟨v1, e1, l1⟩ := x9_earliest (n := n) (c := c) (I := I) (W := W) (p := p) hs12 (hS _ hs)
    obtain ⟨v2, e2, l2⟩ := x9_latest (n := n) (c := c) (I := I) (W := W) (p := p) hs12 (hS _ hs)
    have u1 : v1 = lo (tPm T q k) := l1.uniq (hl _).1
    have u2 : v2 = hi (tPm T q k) := l2.uniq (hl _).2
    subst u1
    subst u2
    refine bdk z9R11 (bdk (z9L11 (by omega) (by omega)) ?_)
    rw [toN, hP, if_neg (by omega)]
    refine bdk z9T (bdk em (bdk z9T (bdk e1 (bdk z9T (bdk em (bdk z9T (bdk e2 ?_)))))))
    have key : ∀ y0 : Int, y0 = (if lo (tPm T q k) = -1 then 1 else r.2.2.2.2) → D_X9_phase_117 (D_X9_phase_64 f) 1170 (q : Int) r.1 r.2.1 r.2.2.1 r.2.2.2.1 (k : Int) (lo (tPm T q k)) (hi (tPm T q k)) y0 (st true n c I W p) = some (phS lo hi (tPm T q) d (k + 1) (phS1 lo hi (tPm T q k) r)) := by
      intro y0 hy
      subst hy
      unfold D_X9_phase_117 D_X9_phase_139 D_X9_phase_145 D_X9_phase_173
      rw [mw_n (by omega)]
      by_cases c0 : lo (tPm T q k) = -1
      · have := ih (k + 1) f (phS1 lo hi (tPm T q k) r) (by omega) (by omega) (by unfold phS1; rw [if_pos c0]; exact Or.inr rfl)
        unfold phS1 at this ⊢
        rw [if_pos c0] at this ⊢
        rw [if_neg (fun w => w c0), if_pos c0]
        exact this
      · have := ih (k + 1) f (phS1 lo hi (tPm T q k) r) (by omega) (by omega) (by unfold phS1; rw [if_neg c0]; exact h01)
        unfold phS1 at this ⊢
        rw [if_neg c0] at this ⊢
        rw [if_pos c0, if_neg c0]
        by_cases c1 : r.1 = -1
        · rw [if_pos c1] at this ⊢
          rw [if_pos c1]
          exact this
        · rw [if_neg c1] at this ⊢
          rw [if_neg c1]
          by_cases c2 : r.1 ≤ lo (tPm T q k)
          · rw [if_pos c2]
            rw [if_neg (show ¬ lo (tPm T q k) < r.1 by omega)] at this ⊢
            exact this
          · rw [if_neg c2]
            rw [if_pos (show lo (tPm T q k) < r.1 by omega)] at this ⊢
            exact this
    show (if r.2.2.2.2 ≠ 0 then _ else _) = some (phS lo hi (tPm T q) d (k + 1) (phS1 lo hi (tPm T q k) r))
    unfold D_X9_phase_112
    rcases h01 with h | h
    · rw [if_neg (fun w => w h)]
      by_cases c0 : lo (tPm T q k) = -1
      · rw [if_neg (fun w => w c0)]
        exact key 1 (by rw [if_pos c0])
      · rw [if_pos c0]
        exact key 0 (by rw [if_neg c0, h])
    · rw [if_pos (by omega)]
      exact key 1 (by rw [h]; split <;> rfl)
end PJ
section PK
variable {n : Nat} {s : Sp}
theorem x9_phase {c : Nat × Nat × Nat × Nat} {I : Nat → Nat → Int} {W : Nat → Nat → BitVec 64} {p : Nat → Nat} {lo hi : Nat → Int} {q : Nat} {x : Int} (hl : ∀ t, LoP (lft (sT s) t) 1000 (lo t) ∧ HiP (lft (sT s) t) 1000 (hi t)) (h : IM s I) (hq : (q : Int) < sT s 305) (hx : 0 ≤ x ∧ x ≤ 4) :
    ∃ I', D_X9_phase 1170 (q : Int) x (st true n c I W p) = some (phA (sT s) lo hi q x, st true n c I' W p) ∧ AskX (sT s) I I' ∧ I' 1170 0 = 0 := by
  have hw' := h.w.1
  unfold WFn at hw'
  have q4 : q < 4 := by omega
  obtain ⟨w1, w2, -⟩ := h.w.2.2.2.1 q hq
  have pre : ∀ {R : Option (Int × mS)}, (if x ≠ 0 then
        (tgO (st true n c (zJ I) W p) 1170 8).bind fun _ =>
        (D_X9_lays 1170 (st true n c (zJ I) W p)).bind fun r5 =>
        (D_X9_phase_64 mFU 1170 (q : Int) ((-1)) ((-1)) ((-1)) 1000 0 0 r5).bind fun r6 =>
        if 3 ≤ x then
          if r6.2.2.2.2 = 0 then
            if x ≠ 3 then
              D_X9_phase_226 (mw (r6.2.1 - r6.1)) r5
            else
              D_X9_phase_226 (if 0 < (mw (r6.2.2.1 - r6.2.2.2.1)) then (mw (r6.2.2.1 - r6.2.2.2.1)) else 0) r5
          else
            D_X9_phase_226 ((-1)) r5
        else
          if x ≠ 1 then
            D_X9_phase_195 r6.2.1 r5
          else
            D_X9_phase_195 r6.1 r5
      else
        (gR (st true n c (zJ I) W p) 1170 8 11).bind fun v7 =>
        (lI (st true n c (zJ I) W p) v7 (q : Int)).bind fun v8 =>
        some (v8, (st true n c (zJ I) W p))) = R → D_X9_phase 1170 (q : Int) x (st true n c I W p) = R := by
    intro R hR
    unfold D_X9_phase
    refine bdk z9Z (bdk z9T ?_)
    rw [isPhase_k h.w.1 (zJ_T h.T) zJ0, if_pos ⟨by omega, hq⟩]
    refine bdk rfl ?_
    show (if (1 : Int) = 0 then _ else _) = _
    rw [if_neg (by decide)]
    refine bdk within_k ?_
    rw [if_pos hx]
    refine bdk z9T (bdk (fine1 zJ0) ?_)
    show (if (1 : Int) ≠ 0 then _ else _) = _
    rw [if_pos (by decide)]
    exact hR
  by_cases c0 : x = 0
  · refine ⟨zJ I, pre ?_, AskX_zJ h, zJ0⟩
    rw [if_neg (fun w => w c0)]
    refine bdk z9R11 (bdk (z9L11 (by omega) (by omega)) ?_)
    rw [toN, (zJ_T h.T).2.2.2.2.2.2.1 q q4]
    unfold phA
    rw [if_pos c0]
  · obtain ⟨I', e, hA, hX, h0, hS⟩ := laysX (n := n) (c := c) (W := W) (p := p) h
    refine ⟨I', pre ?_, hX, h0⟩
    rw [if_pos c0]
    have h64 := x9_ph64 (n := n) (c := c) (W := W) (p := p) hl h.w hA.1 hS hq (tPn (sT s) q) 0 mFU (-1, -1, -1, 1000, 0) (by unfold tPn; omega) (by unfold tPn mFU; omega) (Or.inl rfl)
    obtain ⟨rr, rb⟩ := phS_rel (lo := lo) (hi := hi) (m := tPm (sT s) q) (fun t => ⟨(hl t).1.rng, (hl t).2.rng⟩) (tPn (sT s) q) 0 (-1, -1, 0, 999, 0) (-1, -1, -1, 1000, 0) ⟨rfl, rfl, rfl, rfl, rfl⟩ (Or.inl (by unfold tPn; omega))
    refine bdk z9T (bdk e (bdk h64 ?_))
    unfold phA
    rw [if_neg c0, phV_rel rr rb]
    generalize phS lo hi (tPm (sT s) q) (tPn (sT s) q) 0 (-1, -1, -1, 1000, 0) = r
    unfold phV D_X9_phase_226 D_X9_phase_195
    show (if 3 ≤ x then (if r.2.2.2.2 = 0 then _ else _) else _) = _
    by_cases c2 : 2 < x
    · rw [if_pos (show 3 ≤ x by omega), if_pos c2]
      by_cases c3 : r.2.2.2.2 = 0
      · rw [if_pos c3, if_pos c3]
        by_cases c4 : x = 3
        · rw [if_neg (fun w => w c4), if_pos c4]
        · rw [if_pos c4, if_neg c4]
      · rw [if_neg c3, if_neg c3]
    · rw [if_neg (show ¬ 3 ≤ x by omega), if_neg c2]
      by_cases c4 : x = 1
      · rw [if_neg (fun w => w c4), if_pos c4]
      · rw [if_pos c4, if_neg c4]
theorem a_phase {q x : Int} : Agree n (D_X8_phase 32 q x) (D_X9_phase 1170 q x) cmB s := by
  obtain ⟨lo, hi, hl⟩ := lohi_ex (sT s)
  by_cases cq : 0 ≤ q ∧ q < sT s 305
  · by_cases c2 : 0 ≤ x ∧ x ≤ 4
    · refine ag_v (x := phA (sT s) lo hi q.toNat x) (q8v fun c I W p h => ?_) (q9v fun c I W p h => ?_)
      · rw [x8_phase hl h.w h.T h.N, if_pos cq, if_pos c2]
      · have cc := cq
        obtain ⟨q, rfl⟩ := Int.eq_ofNat_of_zero_le cc.1
        rw [toN]
        exact x9_phase hl h cc.2 c2
    · refine ag_r (e := 1) (q8r (by decide) fun c I W p h => ?_) (v := 0) (code := 2) (q9r (by decide) fun c I W p h => ⟨zJ I, ?_, AskX_zJ h⟩) rfl (by decide)
      · rw [x8_phase hl h.w h.T h.N, if_pos cq, if_neg c2]
      · unfold D_X9_phase D_X9_phase_28
        refine bdk z9Z (bdk z9T ?_)
        rw [isPhase_k h.w.1 (zJ_T h.T) zJ0, if_pos cq]
        refine bdk rfl ?_
        show (if (1 : Int) = 0 then _ else _) = _
        rw [if_neg (by decide)]
        refine bdk within_k ?_
        rw [if_neg c2]
        refine bdk z9T (bdk (fine0 (kind := 1) (by decide) (by decide) zJ0) ?_)
        show (if (0 : Int) ≠ 0 then _ else _) = _
        rw [if_neg (by decide)]
  · refine ag_r (e := 0) (q8r (by decide) fun c I W p h => ?_) (v := 0) (code := 1) (q9r (by decide) fun c I W p h => ⟨zJ I, ?_, AskX_zJ h⟩) rfl (by decide)
    · rw [x8_phase hl h.w h.T h.N, if_neg cq]
    · unfold D_X9_phase D_X9_phase_28
      refine bdk z9Z (bdk z9T ?_)
      rw [isPhase_k h.w.1 (zJ_T h.T) zJ0, if_neg cq]
      refine bdk rfl ?_
      show (if (0 : Int) = 0 then _ else _) = _
      rw [if_pos rfl]
/-! members -/
def memS (T : Td) (q : Nat) (k : Int) : Int := if 0 ≤ k ∧ k < T (350 + q) then T (360 + 6 * q + k.toNat) else -1
theorem a_member {q k : Int} : Agree n (D_X8_member 32 q k) (D_X9_member 1170 q k) cmN s := by
  by_cases cq : 0 ≤ q ∧ q < sT s 305
  · refine ag_v (x := memS (sT s) q.toNat k) (q8v fun c I W p h => ?_) (q9v fun c I W p h => ⟨zJ I, ?_, AskX_zJ h, zJ0⟩)
    · have hw' := h.w.1
      unfold WFn at hw'
      obtain ⟨q, rfl⟩ := Int.eq_ofNat_of_zero_le cq.1
      have q4 : q < 4 := by omega
      obtain ⟨w1, w2, -⟩ := h.w.2.2.2.1 q cq.2
      have hP := h.T.2.2.2.1 q (by unfold nPh; omega)
      rw [toN]
      unfold D_X8_member D_X8_member_42 D_X8_member_43 memS
      refine bdk z8T ?_
      rw [needPhase_k h.T, if_pos cq]
      refine bdk rfl ?_
      show (if k < 0 then _ else _) = _
      by_cases k0 : k < 0
      · rw [if_pos k0, if_neg (by omega)]
      · rw [if_neg k0]
        refine bdk z8R1 (bdk (t5R9 TB34) (bdk (t5A4 TB34 (by omega) (by omega)) ?_))
        rw [toN]
        refine bdk (t1I TB34 q4) ?_
        rw [hP.1]
        show (if sT s (350 + q) ≤ k then _ else _) = _
        by_cases k1 : sT s (350 + q) ≤ k
        · rw [if_pos k1, if_neg (by omega)]
        · rw [if_neg k1, if_pos (by omega)]
          refine bdk z8R1 (bdk (t5R9 TB34) (bdk (t5A4 TB34 (by omega) (by omega)) ?_))
          rw [toN]
          refine bdk (t1R1 TB34 q4) (bdk (t1L1 TB34 q4 (by omega) (by omega)) ?_)
          rw [hP.2 k.toNat (by omega)]
    · have hw' := h.w.1
      unfold WFn at hw'
      obtain ⟨q, rfl⟩ := Int.eq_ofNat_of_zero_le cq.1
      have q4 : q < 4 := by omega
      obtain ⟨w1, w2, -⟩ := h.w.2.2.2.1 q cq.2
      have hZ := zJ_T h.T
      have hP := hZ.2.2.2.2.2.2.1 q q4
      rw [toN]
      unfold D_X9_member D_X9_member_41 memS
      refine bdk z9Z (bdk z9T ?_)
      rw [isPhase_k h.w.1 hZ zJ0, if_pos cq]
      refine bdk rfl ?_
      show (if (1 : Int) ≠ 0 then _ else _) = _
      rw [if_pos (by decide)]
      refine bdk z9R11 (bdk (z9L11 (by omega) (by omega)) ?_)
      rw [toN, hP, mw_of (by omega) (by omega)]
      refine bdk within_k ?_
      by_cases k0 : 0 ≤ k ∧ k < sT s (350 + q)
      · rw [if_pos (show 0 ≤ k ∧ k ≤ sT s (350 + q) - 1 by omega), if_pos k0]
        show (if (1 : Int) = 0 then _ else _) = _
        rw [if_neg (by decide)]
        obtain ⟨k, rfl⟩ := Int.eq_ofNat_of_zero_le k0.1
        rw [toN]
        exact bdk z9T (bdk (x9_memberOf q4 (by omega) hZ) rfl)
      · rw [if_neg (show ¬ (0 ≤ k ∧ k ≤ sT s (350 + q) - 1) by omega), if_neg k0]
        show (if (0 : Int) = 0 then _ else _) = _
        rw [if_pos rfl]
  · refine ag_r (e := 0) (q8r (by decide) fun c I W p h => ?_) (v := 0) (code := 1) (q9r (by decide) fun c I W p h => ⟨zJ I, ?_, AskX_zJ h⟩) rfl (by decide)
    · unfold D_X8_member
      refine bdk z8T ?_
      rw [needPhase_k h.T, if_neg cq]
      exact bdk rfl rfl
    · unfold D_X9_member
      refine bdk z9Z (bdk z9T ?_)
      rw [isPhase_k h.w.1 (zJ_T h.T) zJ0, if_neg cq]
      refine bdk rfl ?_
      show (if (0 : Int) ≠ 0 then _ else _) = _
      rw [if_neg (by decide)]
end PK
