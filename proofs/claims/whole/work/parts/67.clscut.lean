/-! THE PURE PART: the desk's goings -/
def NarC (b : Nat) (m nr : Nat) (N : NS) (I : Nat → Nat → Int) (W : Nat → Nat → BitVec 64) : Prop :=
  (∀ s, s < m → ∀ y, y < 1024 → wb (W (b + 15 + s)) y = (decide (y < 1000) && nS N s y)) ∧
  (∀ s, s < m → I (b + 27) s = ((ct (nS N s) 1000 : Nat) : Int) ∧ LoP (nS N s) 1000 (I (b + 28) s) ∧ HiP (nS N s) 1000 (I (b + 29) s)) ∧
  (∀ r, r < nr → I (b + 30) r = nG N r) ∧ I b 9 = nCr N ∧ I b 10 = nCs N ∧ I b 14 = (if nCh N = 0 then 0 else 1)
/-- what the desk's narrowing writes -/
def PC (b : Nat) (a k : Nat) : Prop := a = b + 27 ∨ a = b + 28 ∨ a = b + 29 ∨ a = b + 30 ∨ (a = b ∧ (k = 9 ∨ k = 10 ∨ k = 14))
def PW (b : Nat) (a : Nat) : Prop := (b + 15 ≤ a ∧ a < b + 27) ∨ a = b + 32
section CC
variable {g : Bool} {n : Nat} {c : Nat × Nat × Nat × Nat} {I : Nat → Nat → Int} {W : Nat → Nat → BitVec 64} {p : Nat → Nat} {b : Nat} {N : NS} {m nr : Nat}
theorem ct_fun {S : Nat → Bool} : ct (fun y => S y) 1000 = ct S 1000 := rfl
/-- keeping by a row of years, and noting -/
theorem x0_cut {r s : Nat} {keep : Nat → Bool} (h : NB b) (hm : m ≤ 12) (hs : s < m) (hr : r < nr) (hnr : nr ≤ 24) (hN : NarC b m nr N I W) (hv : Ninv m N) (h13 : I b 13 = (r : Int)) (hK : ∀ y, y < 1000 → wb (W (b + 32)) y = keep y) :
    ∃ I' W' W1 I1, D_X0_keepOnly b (s : Int) (b + 32) (st g n c I W p) = some (st g n c I1 W1 p) ∧ D_X0_note b (s : Int) (I (b + 27) s) (st g n c I1 W1 p) = some (st g n c I' W' p) ∧ NarC b m nr (cutN r s keep N) I' W' ∧ Fr (PC b) I I' ∧ (∀ a, ¬ PW b a → W' a = W a) ∧ (∀ y, y < 1000 → wb (W' (b + 32)) y = keep y) := by
  obtain ⟨h1, h2, h3, h4, h5, h6⟩ := hN
  obtain ⟨W1, lo, hi, e1, f1, f2, f3, f4⟩ := x0_keepOnly (n := n) (c := c) (I := I) (p := p) (g := g) (k := b + 32) (S := nS N s) (K := keep) h (by omega : s < 12) (n0H32 h) (by omega) (h1 s hs) hK
  have b9 : I b 9 = nCr N := h4
  have sp := ct_split (nS N s) keep 1000
  have l1 := ct_le (nS N s) 1000
  have gr := hv.1 r
  have eW : ∀ a, ¬ PW b a → W1 a = W a := fun a ha => f1 a (by unfold PW at ha; omega)
  have eK : ∀ y, y < 1000 → wb (W1 (b + 32)) y = keep y := fun y hy => by rw [f1 (b + 32) (by omega)]; exact hK y hy
  have hb : b = 188 ∨ b = 221 := h
  -- the values that are read behind keepOnly
  generalize hI1 : u2 (u2 (u2 I (b + 27) s ((ct (fun y => nS N s y && keep y) 1000 : Nat) : Int)) (b + 28) s lo) (b + 29) s hi = I1 at e1
  have rd : ∀ a k, ¬ (a = b + 27 ∧ k = s) → ¬ (a = b + 28 ∧ k = s) → ¬ (a = b + 29 ∧ k = s) → I1 a k = I a k := fun a k q1 q2 q3 => by rw [← hI1, u2_def, if_neg q3, u2_def, if_neg q2, u2_def, if_neg q1]
  have r27 : I1 (b + 27) s = ((ct (fun y => nS N s y && keep y) 1000 : Nat) : Int) := by rw [← hI1, u2_def, if_neg (by omega), u2_def, if_neg (by omega), u2_def, if_pos ⟨rfl, rfl⟩]
  have r28 : I1 (b + 28) s = lo := by rw [← hI1, u2_def, if_neg (by omega), u2_def, if_pos ⟨rfl, rfl⟩]
  have r29 : I1 (b + 29) s = hi := by rw [← hI1, u2_def, if_pos ⟨rfl, rfl⟩]
  have spans : ∀ t, t < m → ∀ y, y < 1024 → wb (W1 (b + 15 + t)) y = (decide (y < 1000) && nS (cutN r s keep N) t y) := fun t ht y hy => by
    show _ = (decide (y < 1000) && (if t = s then (nS N s y && keep y) else nS N t y))
    by_cases q : t = s
    · subst q
      rw [if_pos rfl]
      exact f2 y hy
    · rw [if_neg q, f1 _ (by omega)]
      exact h1 t ht y hy
  have sizes : ∀ t, t < m → I1 (b + 27) t = ((ct (nS (cutN r s keep N) t) 1000 : Nat) : Int) ∧ LoP (nS (cutN r s keep N) t) 1000 (I1 (b + 28) t) ∧ HiP (nS (cutN r s keep N) t) 1000 (I1 (b + 29) t) := fun t ht => by
    by_cases q : t = s
    · subst q
      have e : nS (cutN r t keep N) t = fun y => nS N t y && keep y := by funext y; exact if_pos rfl
      rw [e, r27, r28, r29]
      exact ⟨rfl, f3, f4⟩
    · have e : nS (cutN r s keep N) t = nS N t := by funext y; exact if_neg q
      rw [e, rd _ _ (by omega) (by omega) (by omega), rd _ _ (by omega) (by omega) (by omega), rd _ _ (by omega) (by omega) (by omega)]
      exact h2 t ht
  have sz := (h2 s hs).1
  by_cases z : ct (fun y => nS N s y && !keep y) 1000 = 0
  · refine ⟨I1, W1, W1, I1, e1, ?_, ⟨spans, sizes, fun q hq => ?_, ?_, ?_, ?_⟩, fun a k q => rd a k (fun w => q (by unfold PC; omega)) (fun w => q (by unfold PC; omega)) (fun w => q (by unfold PC; omega)), eW, eK⟩
    · unfold D_X0_note
      refine bdk (n0R4 h) (bdk (n0L27 h (by omega) (by omega)) ?_)
      rw [toN, r27, sz, if_neg (by omega)]
    · rw [rd _ _ (by omega) (by omega) (by omega), h3 q hq]
      show _ = if q = r then _ else _
      split
      · rw [z]; omega
      · rfl
    · rw [rd _ _ (by omega) (by omega) (by omega), h4]
      exact (if_neg (fun w => w.1 z)).symm
    · rw [rd _ _ (by omega) (by omega) (by omega), h5]
      exact (if_neg (fun w => w.1 z)).symm
    · rw [rd _ _ (by omega) (by omega) (by omega), h6]
      have : nCh (cutN r s keep N) = nCh N := by
        show nCh N + _ = _
        rw [z]; omega
      rw [this]
  · -- some go
    have chp : ¬ nCh (cutN r s keep N) = 0 := by
      show ¬ nCh N + _ = 0
      have := hv.2.1
      omega
    have tt := tot_cut (r := r) (keep := keep) (N := N) hs
    have g30 : I1 (b + 30) r = nG N r := by rw [rd _ _ (by omega) (by omega) (by omega)]; exact h3 r hr
    have step : ∀ {R : Option mS}, (if ((ct (fun y => nS N s y && keep y) 1000 : Nat) : Int) ≠ 0 then D_X0_note_65 (st g n c (u2 (u2 I1 b 14 1) (b + 30) r (nG N r + ((ct (fun y => nS N s y && !keep y) 1000 : Nat) : Int))) W1 p) else
        (tgO (st g n c (u2 (u2 I1 b 14 1) (b + 30) r (nG N r + ((ct (fun y => nS N s y && !keep y) 1000 : Nat) : Int))) W1 p) b 0).bind fun _ =>
        (D_X0_hasClash b (st g n c (u2 (u2 I1 b 14 1) (b + 30) r (nG N r + ((ct (fun y => nS N s y && !keep y) 1000 : Nat) : Int))) W1 p)).bind fun r12 =>
        if r12 ≠ 0 then D_X0_note_65 (st g n c (u2 (u2 I1 b 14 1) (b + 30) r (nG N r + ((ct (fun y => nS N s y && !keep y) 1000 : Nat) : Int))) W1 p) else
        (gI (st g n c (u2 (u2 I1 b 14 1) (b + 30) r (nG N r + ((ct (fun y => nS N s y && !keep y) 1000 : Nat) : Int))) W1 p) b 0 13).bind fun v13 =>
        (pI (st g n c (u2 (u2 I1 b 14 1) (b + 30) r (nG N r + ((ct (fun y => nS N s y && !keep y) 1000 : Nat) : Int))) W1 p) b 0 9 v13).bind fun s14 =>
        (pI s14 b 0 10 (s : Int)).bind fun s15 => D_X0_note_65 s15) = R → D_X0_note b (s : Int) (I (b + 27) s) (st g n c I1 W1 p) = R := by
      intro R hh
      unfold D_X0_note
      refine bdk (n0R4 h) (bdk (n0L27 h (by omega) (by omega)) ?_)
      rw [toN, r27, sz, if_pos (by omega)]
      refine bdk (n0B h (Or.inr rfl)) (bdk (n0R7 h) (bdk (n0I h) ?_))
      rw [u2_def, if_neg (by omega), rd _ _ (by omega) (by omega) (by omega), h13]
      refine bdk (n0L30 h (by omega) (by omega)) (bdk (n0R4 h) (bdk (n0L27 h (by omega) (by omega)) ?_))
      rw [toN, toN, u2_def, if_neg (by omega), u2_def, if_neg (by omega), r27, g30]
      rw [mw_of (x := ((ct (nS N s) 1000 : Nat) : Int) - _) (by omega) (by omega), show ((ct (nS N s) 1000 : Nat) : Int) - ((ct (fun y => nS N s y && keep y) 1000 : Nat) : Int) = ((ct (fun y => nS N s y && !keep y) 1000 : Nat) : Int) by omega, mw_of (by omega) (by omega)]
      refine bdk (n0S30 h (by omega) (by omega)) (bdk (n0R4 h) (bdk (n0L27 h (by omega) (by omega)) ?_))
      have v7 : u2 (u2 I1 b 14 1) (b + 30) r (nG N r + ((ct (fun y => nS N s y && !keep y) 1000 : Nat) : Int)) (b + 27) s = ((ct (fun y => nS N s y && keep y) 1000 : Nat) : Int) := by rw [u2_def, if_neg (by omega), u2_def, if_neg (by omega), r27]
      rw [toN, toN, v7]
      exact hh
    generalize hI2 : u2 (u2 I1 b 14 1) (b + 30) r (nG N r + ((ct (fun y => nS N s y && !keep y) 1000 : Nat) : Int)) = I2 at step
    have rd2 : ∀ a k, ¬ (a = b ∧ k = 14) → ¬ (a = b + 30 ∧ k = r) → I2 a k = I1 a k := fun a k q1 q2 => by rw [← hI2, u2_def, if_neg q2, u2_def, if_neg q1]
    have s30 : I2 (b + 30) r = nG N r + ((ct (fun y => nS N s y && !keep y) 1000 : Nat) : Int) := by rw [← hI2, u2_def, if_pos ⟨rfl, rfl⟩]
    have s14 : I2 b 14 = 1 := by rw [← hI2, u2_def, if_neg (by omega), u2_def, if_pos ⟨rfl, rfl⟩]
    have s9 : I2 b 9 = nCr N := by rw [rd2 _ _ (by omega) (by omega), rd _ _ (by omega) (by omega) (by omega), h4]
    have s10 : I2 b 10 = nCs N := by rw [rd2 _ _ (by omega) (by omega), rd _ _ (by omega) (by omega) (by omega), h5]
    have s13 : I2 b 13 = (r : Int) := by rw [rd2 _ _ (by omega) (by omega), rd _ _ (by omega) (by omega) (by omega), h13]
    have fr2 : Fr (PC b) I I2 := fun a k q => by
      rw [rd2 a k (fun w => q (by unfold PC; omega)) (fun w => q (by unfold PC; omega))]
      exact rd a k (fun w => q (by unfold PC; omega)) (fun w => q (by unfold PC; omega)) (fun w => q (by unfold PC; omega))
    have goneQ : ∀ q, q < nr → I2 (b + 30) q = nG (cutN r s keep N) q := fun q hq => by
      show _ = if q = r then _ else _
      by_cases w : q = r
      · subst w
        rw [if_pos rfl, s30]
      · rw [if_neg w, rd2 _ _ (by omega) (by omega), rd _ _ (by omega) (by omega) (by omega)]
        exact h3 q hq
    have sizes2 : ∀ t, t < m → I2 (b + 27) t = ((ct (nS (cutN r s keep N) t) 1000 : Nat) : Int) ∧ LoP (nS (cutN r s keep N) t) 1000 (I2 (b + 28) t) ∧ HiP (nS (cutN r s keep N) t) 1000 (I2 (b + 29) t) := fun t ht => by
      rw [rd2 _ _ (by omega) (by omega), rd2 _ _ (by omega) (by omega), rd2 _ _ (by omega) (by omega)]
      exact sizes t ht
    by_cases q : nCs N = -2 ∧ ct (fun y => nS N s y && keep y) 1000 = 0
    · refine ⟨u2 (u2 I2 b 9 r) b 10 s, W1, W1, I1, e1, step ?_, ⟨spans, fun t ht => ?_, fun x hx => ?_, ?_, ?_, ?_⟩, fun a k w => ?_, eW, eK⟩
      · rw [if_neg (by omega)]
        refine bdk (n0T h) ?_
        have hc : D_X0_hasClash b (st g n c I2 W1 p) = some 0 := by
          unfold D_X0_hasClash
          refine bdk (n0I h) ?_
          rw [s10, if_pos q.1]
          rfl
        refine bdk hc ?_
        rw [if_neg (by decide)]
        refine bdk (n0I h) ?_
        rw [s13]
        exact bdk (n0P h) (bdk (n0P h) rfl)
      · rw [u2_def, if_neg (by omega), u2_def, if_neg (by omega), u2_def, if_neg (by omega), u2_def, if_neg (by omega), u2_def, if_neg (by omega), u2_def, if_neg (by omega)]
        exact sizes2 t ht
      · rw [u2_def, if_neg (by omega), u2_def, if_neg (by omega)]
        exact goneQ x hx
      · rw [u2_def, if_neg (by omega), u2_def, if_pos ⟨rfl, rfl⟩]
        exact (if_pos ⟨z, q⟩).symm
      · rw [u2_def, if_pos ⟨rfl, rfl⟩]
        exact (if_pos ⟨z, q⟩).symm
      · rw [u2_def, if_neg (by omega), u2_def, if_neg (by omega), s14, if_neg chp]
      · rw [u2_def, if_neg (fun v => w (by unfold PC; omega)), u2_def, if_neg (fun v => w (by unfold PC; omega))]
        exact fr2 a k w
    · refine ⟨I2, W1, W1, I1, e1, step ?_, ⟨spans, sizes2, goneQ, ?_, ?_, ?_⟩, fr2, eW, eK⟩
      · by_cases v : ct (fun y => nS N s y && keep y) 1000 = 0
        · rw [if_neg (by omega)]
          refine bdk (n0T h) ?_
          have hc : D_X0_hasClash b (st g n c I2 W1 p) = some 1 := by
            unfold D_X0_hasClash
            refine bdk (n0I h) ?_
            rw [s10, if_neg (fun w => q ⟨w, v⟩)]
            rfl
          refine bdk hc ?_
          rw [if_pos (by decide)]
          rfl
        · rw [if_pos (by omega)]
          rfl
      · rw [s9]
        exact (if_neg (fun w => q w.2)).symm
      · rw [s10]
        exact (if_neg (fun w => q w.2)).symm
      · rw [s14, if_neg chp]
theorem clear_wb {a : Nat} (y : Nat) (hy : y < 1024) : wb ((fun b k => if b = a ∧ k < 16 then (0 : BitVec 64) else W b k) a) y = false := by
  unfold wb
  show (if a = a ∧ y / 64 < 16 then (0 : BitVec 64) else W a (y / 64)).getLsbD (y % 64) = false
  rw [if_pos ⟨rfl, by omega⟩]
  exact BitVec.getLsbD_zero
theorem NarC.words {W' : Nat → Nat → BitVec 64} (hN : NarC b m nr N I W) (hW : ∀ a, a ≠ b + 32 → W' a = W a) (hm : m ≤ 12) : NarC b m nr N I W' :=
  ⟨fun s hs y hy => by rw [hW _ (by omega)]; exact hN.1 s hs y hy, hN.2⟩
theorem x0_limit {r s : Nat} {lo hi : Int} {keep : Nat → Bool} (h : NB b) (hm : m ≤ 12) (hs : s < m) (hr : r < nr) (hnr : nr ≤ 24) (hN : NarC b m nr N I W) (hv : Ninv m N) (h13 : I b 13 = (r : Int)) (hlo : mIn lo) (hhi : mIn hi) (hk : ∀ y : Nat, y < 1000 → keep y = decide (lo ≤ (y : Int) ∧ (y : Int) ≤ hi)) :
    ∃ I' W', D_X0_limit b (s : Int) lo hi (st g n c I W p) = some (st g n c I' W' p) ∧ NarC b m nr (cutN r s keep N) I' W' ∧ Fr (PC b) I I' ∧ (∀ a, ¬ PW b a → W' a = W a) := by
  obtain ⟨W2, e2, f1, f2⟩ := putAll_k (n := n) (c := c) (I := I) (W := fun b' k => if b' = b + 32 ∧ k < 16 then 0 else W b' k) (p := p) (g := g) (a := b + 32) (n0H32 h) hlo hhi
  have hW2 : ∀ a, a ≠ b + 32 → W2 a = W a := fun a ha => by rw [f1 a ha]; funext k; exact if_neg (fun q => ha q.1)
  obtain ⟨I', W', W1, I1, e3, e4, g1, g2, g3, -⟩ := x0_cut (n := n) (c := c) (I := I) (W := W2) (p := p) (g := g) (keep := keep) h hm hs hr hnr (hN.words hW2 hm) hv h13 (fun y hy => by
    rw [f2, clear_wb y (by omega), Bool.false_or, hk y hy, decide_eq_decide]
    omega)
  refine ⟨I', W', ?_, g1, g2, fun a ha => by rw [g3 a ha]; exact hW2 a (fun q => ha (Or.inr q))⟩
  unfold D_X0_limit
  exact bdk (n0R12 h) (bdk (clear_k (n0H32 h)) (bdk (n0R12 h) (bdk e2 (bdk (n0R4 h) (bdk (n0L27 h (by omega) (by omega)) (bdk (n0R12 h) (bdk (n0T h) (bdk e3 (bdk (n0T h) (bdk e4 rfl))))))))))
end CC
