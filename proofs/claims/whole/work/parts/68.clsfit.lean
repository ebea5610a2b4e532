/-! THE PURE PART: the desk's fits -/
def RQ (S : Nat → Bool) (l h : Int) (e y : Nat) : Prop := ∃ z : Nat, z < e ∧ S z = true ∧ (z : Int) + l ≤ y ∧ (y : Int) ≤ z + h
theorem keep_iff {S : Nat → Nat → Bool} {s o y : Nat} {l h : Int} (ho : o ≠ 99) : keepO S (s, o, -h, -l) y = true ↔ RQ (S o) l h 1000 y := by
  have e : keepO S (s, o, -h, -l) y = decide (ct (fun z => S o z && decide ((y : Int) + -h ≤ (z : Int) ∧ (z : Int) ≤ (y : Int) + -l)) 1000 ≠ 0) := if_neg ho
  rw [e, decide_eq_true_eq]
  constructor
  · intro q
    obtain ⟨z, z1, z2⟩ := ct_ex q
    rw [Bool.and_eq_true, decide_eq_true_eq] at z2
    exact ⟨z, z1, z2.1, by omega, by omega⟩
  · rintro ⟨z, z1, z2, z3, z4⟩
    have := ct_pos (p := fun z => S o z && decide ((y : Int) + -h ≤ (z : Int) ∧ (z : Int) ≤ (y : Int) + -l)) (n := 1000) (k := z) z1 (by
      show (S o z && _) = true
      rw [z2, Bool.true_and, decide_eq_true_eq]
      omega)
    omega
theorem ct_seg {S : Nat → Bool} {l u : Nat} (hu : u < 1000) (hlu : l ≤ u) (h1 : ∀ z, z < l → S z = false) (h2 : ∀ z, u < z → z < 1000 → S z = false) : ct S 1000 = ct (fun k => S (l + k)) (u + 1 - l) := by
  have a := ct_add S l (u + 1 - l)
  have b := ct_add S (u + 1) (1000 - (u + 1))
  rw [show l + (u + 1 - l) = u + 1 by omega, ct_0.2 h1] at a
  have z : ct (fun k => S (u + 1 + k)) (1000 - (u + 1)) = 0 := ct_0.2 (fun k hk => h2 _ (by omega) (by omega))
  rw [show u + 1 + (1000 - (u + 1)) = 1000 by omega, z] at b
  omega
/-- a span without gaps, or with gaps that are bridged, reaches all between -/
theorem together_rq {S : Nat → Bool} {l h : Int} {lo up : Nat} (hlh : l ≤ h) (hu : up < 1000) (hlo : lo ≤ up) (s1 : S lo = true) (s2 : S up = true) (h1 : ∀ z, z < lo → S z = false) (h2 : ∀ z, up < z → z < 1000 → S z = false)
    (ht : (up : Int) - lo = (ct S 1000 : Nat) - 1 ∨ (up : Int) - lo - 1 ≤ h - l) (y : Nat) : RQ S l h 1000 y ↔ (lo : Int) + l ≤ y ∧ (y : Int) ≤ up + h := by
  constructor
  · rintro ⟨z, z1, z2, z3, z4⟩
    have a1 : lo ≤ z := by
      rcases Nat.lt_or_ge z lo with q | q
      · rw [h1 z q] at z2; cases z2
      · exact q
    have a2 : z ≤ up := by
      rcases Nat.lt_or_ge up z with q | q
      · rw [h2 z q z1] at z2; cases z2
      · exact q
    omega
  · rintro ⟨q1, q2⟩
    by_cases w : (y : Int) ≤ lo + h
    · exact ⟨lo, by omega, s1, q1, w⟩
    · rcases ht with t | t
      · have full : ∀ k, k < up + 1 - lo → S (lo + k) = true := by
          refine (ct_full (p := fun k => S (lo + k))).1 ?_
          rw [← ct_seg hu hlo h1 h2]
          omega
        have z0 : S ((y : Int) - h).toNat = true := by
          have := full (((y : Int) - h).toNat - lo) (by omega)
          rw [show lo + (((y : Int) - h).toNat - lo) = ((y : Int) - h).toNat by omega] at this
          exact this
        exact ⟨((y : Int) - h).toNat, by omega, z0, by omega, by omega⟩
      · exact ⟨up, hu, s2, by omega, q2⟩
section CF
variable {g : Bool} {n : Nat} {c : Nat × Nat × Nat × Nat} {I : Nat → Nat → Int} {W : Nat → Nat → BitVec 64} {p : Nat → Nat} {b : Nat} {N : NS} {m nr : Nat}
theorem NarC.none {r s : Nat} {keep : Nat → Bool} (hN : NarC b m nr N I W) (z : ct (fun y => nS N s y && !keep y) 1000 = 0) : NarC b m nr (cutN r s keep N) I W := by
  obtain ⟨h1, h2, h3, h4, h5, h6⟩ := hN
  have e : ∀ t y, y < 1000 → nS (cutN r s keep N) t y = nS N t y := fun t y hy => by
    show (if t = s then (nS N s y && keep y) else nS N t y) = _
    by_cases q : t = s
    · subst q
      rw [if_pos rfl]
      have := ct_0.1 z y hy
      cases q1 : nS N t y <;> cases q2 : keep y <;> simp_all
    · rw [if_neg q]
  refine ⟨fun t ht y hy => ?_, fun t ht => ?_, fun q hq => ?_, ?_, ?_, ?_⟩
  · rw [h1 t ht y hy]
    by_cases q : y < 1000
    · rw [e t y q]
    · rw [decide_eq_false q, Bool.false_and, Bool.false_and]
  · obtain ⟨a1, a2, a3⟩ := h2 t ht
    exact ⟨by rw [a1, ct_cong (fun y hy => (e t y hy).symm)], a2.cut (Nat.le_refl _) (fun y hy => e t y hy) (fun y _ _ => by omega), a3.cut (Nat.le_refl _) (fun y hy => e t y hy) (fun y _ _ => by omega)⟩
  · rw [h3 q hq]
    show _ = if q = r then _ else _
    split
    · rw [z]; omega
    · rfl
  · rw [h4]; exact (if_neg (fun w => w.1 z)).symm
  · rw [h5]; exact (if_neg (fun w => w.1 z)).symm
  · rw [h6]
    have : nCh (cutN r s keep N) = nCh N := by
      show nCh N + _ = _
      rw [z]; omega
    rw [this]
/-- the reach of gaps that aren't bridged -/
theorem x0_168 {o : Nat} {S : Nat → Bool} {l h : Int} (hb : NB b) (ho : o < 12) (hlh : l ≤ h) (hl : -1000 ≤ l ∧ l ≤ 1000) (hh : -1000 ≤ h ∧ h ≤ 1000) (hS : ∀ y, y < 1024 → wb (W (b + 15 + o)) y = (decide (y < 1000) && S y)) :
    ∀ (d k f st0 : Nat) (W1 : Nat → Nat → BitVec 64), k + d = 1000 → d < f → k ≤ st0 → st0 ≤ 1000 → (st0 < 1000 → S st0 = true) → (∀ a, a ≠ b + 32 → W1 a = W a) → (∀ y, y < 1000 → (wb (W1 (b + 32)) y = true ↔ RQ S l h st0 y)) →
    ∃ W', D_X0_fit_168 f b (o : Int) l h (st0 : Int) (k : Nat) (st g n c I W1 p) = some (st g n c I W' p) ∧ (∀ a, a ≠ b + 32 → W' a = W a) ∧ ∀ y, y < 1000 → (wb (W' (b + 32)) y = true ↔ RQ S l h 1000 y) := by
  intro d
  induction d with
  | zero =>
    intro k f st0 W1 hk hf h1 h2 h3 h4 h5
    obtain ⟨f, rfl⟩ : ∃ g, f = g + 1 := ⟨f - 1, by omega⟩
    have e : st0 = 1000 := by omega
    subst e
    exact ⟨W1, if_pos (by omega), h4, h5⟩
  | succ d ih =>
    intro k f st0 W1 hk hf h1 h2 h3 h4 h5
    obtain ⟨f, rfl⟩ : ∃ g, f = g + 1 := ⟨f - 1, by omega⟩
    by_cases q : st0 = 1000
    · subst q
      refine ⟨W1, ?_, h4, h5⟩
      show (if (1000 : Int) ≤ (k : Nat) then _ else _) = _
      rw [if_neg (by omega)]
      exact if_pos (by omega)
    · have st1 : st0 < 1000 := by omega
      have row : W1 (b + 15 + o) = W (b + 15 + o) := h4 _ (by omega)
      have inS : ∀ y, y < 1000 → wb (W1 (b + 15 + o)) y = S y := fun y hy => by rw [row, hS y (by omega), decide_eq_true hy, Bool.true_and]
      have cl : clean (W1 (b + 15 + o)) := fun y y1 y2 => by rw [row, hS y y2, decide_eq_false (by omega), Bool.false_and]
      generalize hen : nx (fun y => !wb (W1 (b + 15 + o)) y) st0 = en
      have en1 : st0 ≤ en := by rw [← hen]; exact nx_ge _ _
      have en2 : en ≤ 1000 := by rw [← hen]; exact nx_le (by omega)
      have en3 : ∀ z, st0 ≤ z → z < en → S z = true := fun z z1 z2 => by
        have := nx_no (p := fun y => !wb (W1 (b + 15 + o)) y) (i := st0) z1 (by rw [hen]; exact z2)
        rw [← inS z (by omega)]
        simpa using this
      have en4 : st0 < en := by
        rcases Nat.lt_or_ge st0 en with w | w
        · exact w
        · have e0 : en = st0 := by omega
          have a := nx_yes (p := fun y => !wb (W1 (b + 15 + o)) y) (i := st0) (by rw [hen]; omega)
          rw [hen, e0] at a
          have a2 : (!wb (W1 (b + 15 + o)) st0) = true := a
          rw [inS st0 st1, h3 st1] at a2
          cases a2
      obtain ⟨W2, e2, f1, f2⟩ := putAll_k (n := n) (c := c) (I := I) (W := W1) (p := p) (g := g) (a := b + 32) (x := (st0 : Int) + l) (y := (en : Int) - 1 + h) (n0H32 hb) ⟨by omega, by omega⟩ ⟨by omega, by omega⟩
      have row2 : W2 (b + 15 + o) = W1 (b + 15 + o) := f1 _ (by omega)
      have cl2 : clean (W2 (b + 15 + o)) := by rw [row2]; exact cl
      generalize hst : (if en < 1000 then nx (wb (W2 (b + 15 + o))) en else 1000) = st2
      have t1 : en ≤ st2 := by
        rw [← hst]; split
        · exact nx_ge _ _
        · exact en2
      have t2 : st2 ≤ 1000 := by
        rw [← hst]; split
        · exact nx_le (by omega)
        · omega
      have t3 : ∀ z, en ≤ z → z < st2 → S z = false := fun z z1 z2 => by
        by_cases w : en < 1000
        · rw [if_pos w] at hst
          rw [← inS z (by omega), ← row2]
          exact nx_no (p := wb (W2 (b + 15 + o))) z1 (by rw [hst]; exact z2)
        · omega
      have t4 : st2 < 1000 → S st2 = true := fun w => by
        have w2 : en < 1000 := by omega
        rw [if_pos w2] at hst
        rw [← inS st2 w, ← row2, ← hst]
        exact nx_yes (by rw [hst]; exact w)
      obtain ⟨W', e, g1, g2⟩ := ih (k + 1) f st2 W2 (by omega) (by omega) (by omega) t2 t4 (fun a ha => by rw [f1 a ha]; exact h4 a ha) (fun y hy => by
        rw [f2, Bool.or_eq_true, h5 y hy, decide_eq_true_eq]
        constructor
        · rintro (⟨z, z1, z2, z3, z4⟩ | ⟨q1, q2, -⟩)
          · exact ⟨z, by omega, z2, z3, z4⟩
          · by_cases w : (y : Int) - h ≤ st0
            · exact ⟨st0, by omega, h3 st1, q1, by omega⟩
            · exact ⟨((y : Int) - h).toNat, by omega, en3 _ (by omega) (by omega), by omega, by omega⟩
        · rintro ⟨z, z1, z2, z3, z4⟩
          by_cases w : z < st0
          · exact Or.inl ⟨z, w, z2, z3, z4⟩
          · have : z < en := by
              rcases Nat.lt_or_ge z en with v | v
              · exact v
              · rw [t3 z v z1] at z2; cases z2
            exact Or.inr ⟨by omega, by omega, hy⟩)
      refine ⟨W', ?_, g1, g2⟩
      show (if (1000 : Int) ≤ (k : Nat) then _ else _) = _
      rw [if_neg (by omega), if_neg (by omega)]
      have eo := nextOut_k (n := n) (c := c) (I := I) (W := W1) (p := p) (g := g) (n0H15 hb ho) st0
      rw [if_pos st1, hen] at eo
      have ei := nextIn_k (n := n) (c := c) (I := I) (W := W2) (p := p) (g := g) (n0H15 hb ho) cl2 en
      rw [hst] at ei
      refine bdk (n0R3 hb) (bdk (n0A14 hb (by omega) (by omega)) (bdk eo (bdk (n0R12 hb) ?_)))
      rw [mw_of (x := (st0 : Int) + l) (by omega) (by omega), mw_of (x := (en : Int) - 1) (by omega) (by omega), mw_of (x := (en : Int) - 1 + h) (by omega) (by omega), mw_n (by omega)]
      exact bdk e2 (bdk (n0R3 hb) (bdk (n0A14 hb (by omega) (by omega)) (bdk ei e)))
theorem x0_f234 {r s : Nat} {keep : Nat → Bool} (h : NB b) (hm : m ≤ 12) (hs : s < m) (hr : r < nr) (hnr : nr ≤ 24) (hN : NarC b m nr N I W) (hv : Ninv m N) (h13 : I b 13 = (r : Int)) (hK : ∀ y, y < 1000 → wb (W (b + 32)) y = keep y) :
    ∃ I' W', D_X0_fit_234 b (s : Int) (st g n c I W p) = some (st g n c I' W' p) ∧ NarC b m nr (cutN r s keep N) I' W' ∧ Fr (PC b) I I' ∧ (∀ a, ¬ PW b a → W' a = W a) := by
  obtain ⟨I', W', W1, I1, e3, e4, g1, g2, g3, -⟩ := x0_cut (n := n) (c := c) (I := I) (W := W) (p := p) (g := g) (keep := keep) h hm hs hr hnr hN hv h13 hK
  refine ⟨I', W', ?_, g1, g2, g3⟩
  unfold D_X0_fit_234
  exact bdk (n0R4 h) (bdk (n0L27 h (by omega) (by omega)) (bdk (n0R12 h) (bdk (n0T h) (bdk e3 (bdk (n0T h) (bdk e4 rfl))))))
theorem x0_fit {r s o : Nat} {l u : Int} (h : NB b) (hm : m ≤ 12) (hs : s < m) (ho : o < m) (hr : r < nr) (hnr : nr ≤ 24) (hlu : l ≤ u) (hl : -1000 ≤ l ∧ l ≤ 1000) (hu : -1000 ≤ u ∧ u ≤ 1000) (hN : NarC b m nr N I W) (hv : Ninv m N) (h13 : I b 13 = (r : Int)) :
    ∃ I' W', D_X0_fit b (s : Int) (o : Int) l u (st g n c I W p) = some (st g n c I' W' p) ∧ NarC b m nr (doO r (s, o, -u, -l) N) I' W' ∧ Fr (PC b) I I' ∧ (∀ a, ¬ PW b a → W' a = W a) := by
  obtain ⟨zo, lo1, hi1⟩ := hN.2.1 o ho
  obtain ⟨zs, lo2, hi2⟩ := hN.2.1 s hs
  have c0 := ct_le (nS N o) 1000
  have lor : -1 ≤ I (b + 28) o ∧ I (b + 28) o ≤ 999 := by rcases lo1 with ⟨a, e⟩ | ⟨y, a, e, -⟩ <;> omega
  have hir : -1 ≤ I (b + 29) o ∧ I (b + 29) o ≤ 999 := by rcases hi1 with ⟨a, e⟩ | ⟨y, a, e, -⟩ <;> omega
  -- the first decision
  obtain ⟨tg, htg, hd⟩ : ∃ tg : Int, ((tg = 1 ∧ (I (b + 29) o - I (b + 28) o = I (b + 27) o - 1 ∨ I (b + 29) o - I (b + 28) o - 1 ≤ u - l)) ∨ (tg = 0 ∧ ¬ (I (b + 29) o - I (b + 28) o = I (b + 27) o - 1 ∨ I (b + 29) o - I (b + 28) o - 1 ≤ u - l))) ∧
      D_X0_fit b (s : Int) (o : Int) l u (st g n c I W p) = D_X0_fit_65 b (s : Int) (o : Int) l u (I (b + 28) o + l) (I (b + 29) o + u) tg (st g n c I W p) := by
    have head : ∀ {R : Option mS}, (if I (b + 29) o - I (b + 28) o = I (b + 27) o - 1 then D_X0_fit_60 b (s : Int) (o : Int) l u (I (b + 28) o + l) (I (b + 29) o + u) (st g n c I W p) else if u - l < I (b + 29) o - I (b + 28) o - 1 then D_X0_fit_65 b (s : Int) (o : Int) l u (I (b + 28) o + l) (I (b + 29) o + u) 0 (st g n c I W p) else D_X0_fit_60 b (s : Int) (o : Int) l u (I (b + 28) o + l) (I (b + 29) o + u) (st g n c I W p)) = R → D_X0_fit b (s : Int) (o : Int) l u (st g n c I W p) = R := by
      intro R hh
      unfold D_X0_fit
      refine bdk (n0R5 h) (bdk (n0L28 h (by omega) (by omega)) (bdk (n0R6 h) (bdk (n0L29 h (by omega) (by omega)) (bdk (n0R6 h) (bdk (n0L29 h (by omega) (by omega)) (bdk (n0R5 h) (bdk (n0L28 h (by omega) (by omega)) (bdk (n0R4 h) (bdk (n0L27 h (by omega) (by omega)) ?_)))))))))
      rw [toN, mw_of (x := I (b + 29) o - I (b + 28) o) (by omega) (by omega), mw_of (x := I (b + 27) o - 1) (by omega) (by omega), mw_of (x := u - l) (by omega) (by omega), mw_of (x := I (b + 29) o - I (b + 28) o - 1) (by omega) (by omega), mw_of (x := I (b + 28) o + l) (by omega) (by omega), mw_of (x := I (b + 29) o + u) (by omega) (by omega)]
      exact hh
    by_cases q1 : I (b + 29) o - I (b + 28) o = I (b + 27) o - 1
    · exact ⟨1, Or.inl ⟨rfl, Or.inl q1⟩, head (by rw [if_pos q1]; rfl)⟩
    · by_cases q2 : u - l < I (b + 29) o - I (b + 28) o - 1
      · exact ⟨0, Or.inr ⟨rfl, by omega⟩, head (by rw [if_neg q1, if_pos q2])⟩
      · exact ⟨1, Or.inl ⟨rfl, Or.inr (by omega)⟩, head (by rw [if_neg q1, if_neg q2]; rfl)⟩
  rw [hd]
  have o99 : o ≠ 99 := by omega
  have rd1 : ∀ {R : Option mS}, (if I (b + 27) s = 0 then D_X0_fit_112 (st g n c I W p) else if I (b + 27) o ≤ 0 then D_X0_fit_113 b (s : Int) (o : Int) l u (I (b + 28) o + l) (I (b + 29) o + u) tg (st g n c I W p) else if tg = 0 then D_X0_fit_113 b (s : Int) (o : Int) l u (I (b + 28) o + l) (I (b + 29) o + u) tg (st g n c I W p)
      else if I (b + 28) s < I (b + 28) o + l then D_X0_fit_113 b (s : Int) (o : Int) l u (I (b + 28) o + l) (I (b + 29) o + u) tg (st g n c I W p) else if I (b + 29) o + u < I (b + 29) s then D_X0_fit_113 b (s : Int) (o : Int) l u (I (b + 28) o + l) (I (b + 29) o + u) tg (st g n c I W p) else D_X0_fit_112 (st g n c I W p)) = R →
      D_X0_fit_65 b (s : Int) (o : Int) l u (I (b + 28) o + l) (I (b + 29) o + u) tg (st g n c I W p) = R := by
    intro R hh
    unfold D_X0_fit_65
    refine bdk (n0R4 h) (bdk (n0L27 h (by omega) (by omega)) ?_)
    rw [toN]
    by_cases q0 : I (b + 27) s = 0
    · rw [if_pos q0] at hh ⊢; exact hh
    · rw [if_neg q0] at hh ⊢
      refine bdk (n0R4 h) (bdk (n0L27 h (by omega) (by omega)) ?_)
      rw [toN]
      by_cases q1 : I (b + 27) o ≤ 0
      · rw [if_pos q1] at hh ⊢; exact hh
      · rw [if_neg q1] at hh ⊢
        by_cases q2 : tg = 0
        · rw [if_pos q2] at hh ⊢; exact hh
        · rw [if_neg q2] at hh ⊢
          refine bdk (n0R5 h) (bdk (n0L28 h (by omega) (by omega)) ?_)
          rw [toN]
          by_cases q3 : I (b + 28) s < I (b + 28) o + l
          · rw [if_pos q3] at hh ⊢; exact hh
          · rw [if_neg q3] at hh ⊢
            refine bdk (n0R6 h) (bdk (n0L29 h (by omega) (by omega)) ?_)
            rw [toN]
            exact hh
  have same : ct (fun y => nS N s y && !keepO (nS N) (s, o, -u, -l) y) 1000 = 0 → D_X0_fit_65 b (s : Int) (o : Int) l u (I (b + 28) o + l) (I (b + 29) o + u) tg (st g n c I W p) = some (st g n c I W p) →
      ∃ I' W', D_X0_fit_65 b (s : Int) (o : Int) l u (I (b + 28) o + l) (I (b + 29) o + u) tg (st g n c I W p) = some (st g n c I' W' p) ∧ NarC b m nr (doO r (s, o, -u, -l) N) I' W' ∧ Fr (PC b) I I' ∧ (∀ a, ¬ PW b a → W' a = W a) :=
    fun z e => ⟨I, W, e, hN.none z, Fr.rfl', fun _ _ => rfl⟩
  by_cases q0 : I (b + 27) s = 0
  · refine same (ct_0.2 fun y hy => ?_) (rd1 (by rw [if_pos q0]; rfl))
    rw [ct_0.1 (show ct (nS N s) 1000 = 0 by omega) y hy]
    rfl
  · -- the work: a row of reach that is what is kept
    have fin : ∀ W2 : Nat → Nat → BitVec 64, (∀ a, a ≠ b + 32 → W2 a = W a) → (∀ y, y < 1000 → (wb (W2 (b + 32)) y = true ↔ RQ (nS N o) l u 1000 y)) → ∀ {X : Option mS}, (∀ {R : Option mS}, D_X0_fit_234 b (s : Int) (st g n c I W2 p) = R → X = R) →
        ∃ I' W', X = some (st g n c I' W' p) ∧ NarC b m nr (doO r (s, o, -u, -l) N) I' W' ∧ Fr (PC b) I I' ∧ (∀ a, ¬ PW b a → W' a = W a) := by
      intro W2 w1 w2 X hX
      obtain ⟨I', W', e, g1, g2, g3⟩ := x0_f234 (n := n) (c := c) (I := I) (W := W2) (p := p) (g := g) (keep := keepO (nS N) (s, o, -u, -l)) h hm hs hr hnr (hN.words w1 hm) hv h13 (fun y hy => by
        have a := w2 y hy
        have a2 := keep_iff (S := nS N) (s := s) (y := y) (l := l) (h := u) o99
        cases q1 : wb (W2 (b + 32)) y <;> cases q2 : keepO (nS N) (s, o, -u, -l) y
        · rfl
        · exact absurd (a.2 (a2.1 q2)) (by rw [q1]; decide)
        · exact absurd (a2.2 (a.1 q1)) (by rw [q2]; decide)
        · rfl)
      exact ⟨I', W', hX e, g1, g2, fun a ha => by rw [g3 a ha]; exact w1 a (fun q => ha (Or.inr q))⟩
    have W0 : ∀ a, a ≠ b + 32 → (fun b' k => if b' = b + 32 ∧ k < 16 then (0 : BitVec 64) else W b' k) a = W a := fun a ha => by funext k; exact if_neg (fun q => ha q.1)
    have to113 : ∀ {R : Option mS}, (if I (b + 27) o ≤ 0 then D_X0_fit_148 b (s : Int) (o : Int) l u (st g n c I (fun b' k => if b' = b + 32 ∧ k < 16 then (0 : BitVec 64) else W b' k) p) else if tg = 0 then D_X0_fit_148 b (s : Int) (o : Int) l u (st g n c I (fun b' k => if b' = b + 32 ∧ k < 16 then (0 : BitVec 64) else W b' k) p) else
        (gR (st g n c I (fun b' k => if b' = b + 32 ∧ k < 16 then (0 : BitVec 64) else W b' k) p) b 0 12).bind fun v5 => (D_X7_putAll v5 (I (b + 28) o + l) (I (b + 29) o + u) (st g n c I (fun b' k => if b' = b + 32 ∧ k < 16 then (0 : BitVec 64) else W b' k) p)).bind fun r6 => D_X0_fit_234 b (s : Int) r6) = R →
        D_X0_fit_113 b (s : Int) (o : Int) l u (I (b + 28) o + l) (I (b + 29) o + u) tg (st g n c I W p) = R := by
      intro R hh
      unfold D_X0_fit_113
      refine bdk (n0R12 h) (bdk (clear_k (n0H32 h)) (bdk (n0R4 h) (bdk (n0L27 h (by omega) (by omega)) ?_)))
      rw [toN]
      exact hh
    by_cases q1 : I (b + 27) o ≤ 0
    · have em : ∀ z, z < 1000 → nS N o z = false := ct_0.1 (show ct (nS N o) 1000 = 0 by omega)
      refine fin _ W0 (fun y hy => ?_) (fun {R} hh => rd1 ?_)
      · rw [clear_wb y (by omega)]
        constructor
        · intro w; cases w
        · rintro ⟨z, z1, z2, -⟩
          rw [em z z1] at z2; cases z2
      · rw [if_neg q0, if_pos q1]
        refine to113 ?_
        rw [if_pos q1]
        unfold D_X0_fit_148
        refine bdk (n0R4 h) (bdk (n0L27 h (by omega) (by omega)) ?_)
        rw [toN, if_pos q1]
        exact hh
    · obtain ⟨lo, el, lo3, slo, blo⟩ : ∃ y : Nat, I (b + 28) o = y ∧ y < 1000 ∧ nS N o y = true ∧ ∀ z, z < y → nS N o z = false := by
        rcases lo1 with ⟨a, e⟩ | w
        · have := ct_0.2 a; omega
        · exact w
      obtain ⟨up, eu, up3, sup, aup⟩ : ∃ y : Nat, I (b + 29) o = y ∧ y < 1000 ∧ nS N o y = true ∧ ∀ z, y < z → z < 1000 → nS N o z = false := by
        rcases hi1 with ⟨a, e⟩ | w
        · have := ct_0.2 a; omega
        · exact w
      have lup : lo ≤ up := by
        rcases Nat.lt_or_ge up lo with w | w
        · rw [blo up w] at sup; cases sup
        · exact w
      rcases htg with ⟨t1, t2⟩ | ⟨t0, t2⟩
      · have tr := together_rq (S := nS N o) (l := l) (h := u) hlu up3 lup slo sup blo aup (by omega)
        by_cases cv : I (b + 28) s < I (b + 28) o + l ∨ I (b + 29) o + u < I (b + 29) s
        · obtain ⟨W2, e2, f1, f2⟩ := putAll_k (n := n) (c := c) (I := I) (W := fun b' k => if b' = b + 32 ∧ k < 16 then (0 : BitVec 64) else W b' k) (p := p) (g := g) (a := b + 32) (x := I (b + 28) o + l) (y := I (b + 29) o + u) (n0H32 h) ⟨by omega, by omega⟩ ⟨by omega, by omega⟩
          refine fin W2 (fun a ha => by rw [f1 a ha]; exact W0 a ha) (fun y hy => ?_) (fun {R} hh => rd1 ?_)
          · rw [f2, clear_wb y (by omega), Bool.false_or, decide_eq_true_eq, tr y]
            omega
          · have to : D_X0_fit_113 b (s : Int) (o : Int) l u (I (b + 28) o + l) (I (b + 29) o + u) tg (st g n c I W p) = R := by
              refine to113 ?_
              rw [if_neg q1, if_neg (by omega)]
              exact bdk (n0R12 h) (bdk e2 hh)
            rw [if_neg q0, if_neg q1, if_neg (by omega)]
            by_cases w : I (b + 28) s < I (b + 28) o + l
            · rw [if_pos w]; exact to
            · rw [if_neg w, if_pos (cv.resolve_left w)]; exact to
        · refine same (ct_0.2 fun y hy => ?_) (rd1 ?_)
          · cases q : nS N s y
            · rfl
            · have ky : keepO (nS N) (s, o, -u, -l) y = true := by
                rw [keep_iff o99, tr y]
                have y1 : I (b + 28) s ≤ y := by
                  rcases lo2 with ⟨a, e⟩ | ⟨z, a, e, f1, f2⟩
                  · rw [a y hy] at q; cases q
                  · rcases Nat.lt_or_ge y z with w | w
                    · rw [f2 y w] at q; cases q
                    · omega
                have y2 : y ≤ I (b + 29) s := by
                  rcases hi2 with ⟨a, e⟩ | ⟨z, a, e, f1, f2⟩
                  · rw [a y hy] at q; cases q
                  · rcases Nat.lt_or_ge z y with w | w
                    · rw [f2 y w hy] at q; cases q
                    · omega
                omega
              rw [ky]
              rfl
          · rw [if_neg q0, if_neg q1, if_neg (by omega), if_neg (by omega), if_neg (by omega)]
            rfl
      · obtain ⟨W2, e2, f1, f2⟩ := x0_168 (n := n) (c := c) (I := I) (W := W) (p := p) (g := g) (b := b) (o := o) (S := nS N o) h (by omega) hlu hl hu (hN.1 o ho) 1000 0 mFU lo (fun b' k => if b' = b + 32 ∧ k < 16 then (0 : BitVec 64) else W b' k) rfl (by decide) (Nat.zero_le _) (by omega) (fun _ => slo) W0 (fun y hy => by
          rw [clear_wb y (by omega)]
          constructor
          · intro w; cases w
          · rintro ⟨z, z1, z2, -⟩
            rw [blo z z1] at z2; cases z2)
        refine fin W2 f1 f2 (fun {R} hh => rd1 ?_)
        rw [if_neg q0, if_neg q1, if_pos t0]
        refine to113 ?_
        rw [if_neg q1, if_pos t0]
        unfold D_X0_fit_148
        refine bdk (n0R4 h) (bdk (n0L27 h (by omega) (by omega)) ?_)
        rw [toN, if_neg q1]
        refine bdk (n0R5 h) (bdk (n0L28 h (by omega) (by omega)) ?_)
        rw [toN, el]
        exact bdk e2 hh
end CF
