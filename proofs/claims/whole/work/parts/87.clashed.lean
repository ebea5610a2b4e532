/-! THE PURE PART: misfits and the clash, asked on both sides -/
section CD
variable {g : Bool} {n : Nat} {c : Nat × Nat × Nat × Nat} {I : Nat → Nat → Int} {W : Nat → Nat → BitVec 64} {p : Nat → Nat} {T : Td}
theorem x8_misfitOf {s y : Nat} (hw : WF T) (hT : ClsT 34 T I) (hA : AgesC T I) (hs : (s : Int) < T 304) (hy : y < 1000) : D_X8_misfitOf 32 (s : Int) (y : Int) (st g n c I W p) = some (misS T (T 1) s y) := by
  have hw' := hw.1
  unfold WFn at hw'
  unfold D_X8_misfitOf
  rw [if_pos (by omega)]
  refine bdk z8R9 (bdk z8R1 (bdk (t5R8 TB34) (bdk (t5A3 TB34 (by omega) (by omega)) (bdk z8R1 (bdk (t5I TB34) (bdk (n0T nb188) ?_))))))
  rw [toN, hT.1.2.1]
  exact bdk (x0_misfit nb188 hw hT hA hs hy hw'.2.1) rfl
theorem x8_misfit {s y : Int} (hw : WF T) (hT : ClsT 34 T I) (hA : AgesC T I) : D_X8_misfit 32 s y (st g n c I W p) = if 0 ≤ s ∧ s < T 304 then (if 0 ≤ y ∧ y < 1000 then some (Sum.inl (misS T (T 1) s.toNat y.toNat), st g n c I W p) else some (Sum.inr 0, st g n (xc c) (rI I 0) W p)) else some (Sum.inr 0, st g n (xc c) (rI I 0) W p) := by
  unfold D_X8_misfit
  refine bdk z8T ?_
  rw [needSample_k hT]
  by_cases q : 0 ≤ s ∧ s < T 304
  · rw [if_pos q, if_pos q]
    refine bdk rfl (bdk z8T ?_)
    rw [needYear_k]
    by_cases q2 : 0 ≤ y ∧ y < 1000
    · rw [if_pos q2, if_pos q2]
      refine bdk rfl (bdk z8T ?_)
      obtain ⟨s, rfl⟩ := Int.eq_ofNat_of_zero_le q.1
      obtain ⟨y, rfl⟩ := Int.eq_ofNat_of_zero_le q2.1
      exact bdk (x8_misfitOf hw hT hA q.2 (by omega)) rfl
    · rw [if_neg q2, if_neg q2]
      exact bdk rfl rfl
  · rw [if_neg q, if_neg q]
    exact bdk rfl rfl
theorem isSample_k {s : Int} (hw : WFn T) (hT : RefT T I) (h0 : I 1170 0 = 0) : D_X9_isSample 1170 s (st true n c I W p) = if 0 ≤ s ∧ s < T 304 then some (1, st true n c I W p) else some (0, st true n c (rJ I 1 0) W p) := by
  unfold WFn at hw
  unfold D_X9_isSample
  refine bdk z9I ?_
  rw [hT.2.2.1, mw_of (by omega) (by omega)]
  refine bdk within_k (bdk z9T ?_)
  by_cases q : 0 ≤ s ∧ s < T 304
  · rw [if_pos (show 0 ≤ s ∧ s ≤ T 304 - 1 by omega), if_pos q]
    exact bdk (fine1 h0) (bdk (x := (1 : Int)) rfl rfl)
  · rw [if_neg (show ¬ (0 ≤ s ∧ s ≤ T 304 - 1) by omega), if_neg q]
    exact bdk (fine0 (kind := 0) (by decide) (by decide) h0) (bdk (x := (0 : Int)) rfl rfl)
theorem x9_misfitAsked {s y : Int} (hw : WF T) (hT : RefT T I) : D_X9_misfit 1170 s y (st true n c I W p) = if 0 ≤ s ∧ s < T 304 then (if 0 ≤ y ∧ y ≤ 999 then some (misS T (T 1) s.toNat y.toNat, st true n c (zJ I) W p) else some (0, st true n c (rJ (zJ I) 1 0) W p)) else some (0, st true n c (rJ (zJ I) 1 0) W p) := by
  unfold D_X9_misfit D_X9_misfit_30
  refine bdk z9Z (bdk z9T ?_)
  rw [isSample_k hw.1 (zJ_T hT) zJ0]
  by_cases q : 0 ≤ s ∧ s < T 304
  · rw [if_pos q, if_pos q]
    refine bdk rfl ?_
    show (if (1 : Int) = 0 then _ else _) = _
    rw [if_neg (by decide)]
    refine bdk z9T ?_
    rw [isYear_k zJ0]
    by_cases q2 : 0 ≤ y ∧ y ≤ 999
    · rw [if_pos q2, if_pos q2]
      refine bdk rfl ?_
      show (if (1 : Int) = 0 then _ else _) = _
      rw [if_neg (by decide)]
      obtain ⟨s, rfl⟩ := Int.eq_ofNat_of_zero_le q.1
      obtain ⟨y, rfl⟩ := Int.eq_ofNat_of_zero_le q2.1
      exact bdk z9T (bdk (x9_misfit hw (zJ_T hT) q.2 (by omega)) rfl)
    · rw [if_neg q2, if_neg q2]
      refine bdk rfl ?_
      show (if (0 : Int) = 0 then _ else _) = _
      rw [if_pos rfl]
      rfl
  · rw [if_neg q, if_neg q]
    refine bdk rfl ?_
    show (if (0 : Int) = 0 then _ else _) = _
    rw [if_pos rfl]
    rfl
/-! without a clash there is no rule of it -/
def CR (N : NS) : Prop := nCs N = -2 → nCr N = -2
theorem CR_cut {r s : Nat} {k : Nat → Bool} {N : NS} (h : CR N) : CR (cutN r s k N) := by
  unfold CR at h ⊢
  unfold cutN
  show (if _ then _ else _) = _ → (if _ then _ else _) = _
  by_cases q : ct (fun y => nS N s y && !k y) 1000 ≠ 0 ∧ nCs N = -2 ∧ ct (fun y => nS N s y && k y) 1000 = 0
  · rw [if_pos q]
    intro w
    omega
  · rw [if_neg q, if_neg q]
    exact h
theorem CR_doL {r : Nat} : ∀ (l : List Op) (N : NS), CR N → CR (doL r l N) := by
  intro l
  induction l with
  | nil => intro N h; exact h
  | cons o l ih => intro N h; exact ih (doO r o N) (CR_cut h)
theorem CR_rnd {sk : Int} : ∀ (d r : Nat) (N : NS), CR N → CR (rndN T sk d r N) := by
  intro d
  induction d with
  | zero => intro r N h; exact h
  | succ d ih =>
    intro r N h
    refine ih (r + 1) _ ?_
    by_cases q : (r : Int) = sk
    · rw [if_pos q]; exact h
    · rw [if_neg q]; exact CR_doL _ _ h
theorem CR_run {sk : Int} : ∀ (f k : Nat) (N : NS), CR N → CR (runN T sk f k N).1 := by
  intro f
  induction f with
  | zero => intro k N h; exact h
  | succ f ih =>
    intro k N h
    have h2 : CR (rndN T sk (nRu T) 0 (ch0 N)) := CR_rnd _ _ _ h
    show CR (if nCh (rndN T sk (nRu T) 0 (ch0 N)) = 0 then (rndN T sk (nRu T) 0 (ch0 N), k + 1) else runN T sk f (k + 1) (rndN T sk (nRu T) 0 (ch0 N))).1
    by_cases q : nCh (rndN T sk (nRu T) 0 (ch0 N)) = 0
    · rw [if_pos q]; exact h2
    · rw [if_neg q]; exact ih _ _ h2
theorem CR_runS {sk : Int} {S : Nat → Nat → Bool} : CR (runS T sk S).1 := CR_run _ _ _ (fun q => if_pos q)
/-- the answer -/
def clashS (T : Td) (w : Int) : Int := if w = 0 then nCr (runS T (-1) (FS T)).1 else nCs (runS T (-1) (FS T)).1
theorem x8_clash {w : Int} (hN : NowC T I W) : D_X8_clash 32 w (st g n c I W p) = if 0 ≤ w ∧ w ≤ 1 then some (Sum.inl (clashS T w), st g n c I W p) else some (Sum.inr 1, st g n (xc c) (rI I 1) W p) := by
  have h9 := hN.2.1.2.1.2.2.2.1
  have h10 := hN.2.1.2.1.2.2.2.2.1
  unfold D_X8_clash clashS D_X8_clash_10 D_X8_clash_15 D_X8_clash_39
  by_cases c0 : w = 0
  · rw [if_pos c0, if_pos (by omega), if_pos c0]
    refine bdk z8T (bdk need1 ?_)
    show (if w ≠ 0 then _ else _) = _
    rw [if_neg (fun v => v c0)]
    refine bdk z8R9 (bdk (n0I nb188) ?_)
    rw [h9]
  · rw [if_neg c0]
    by_cases c1 : w = 1
    · rw [if_neg (fun v => v c1), if_pos (by omega), if_neg c0]
      refine bdk z8T (bdk need1 ?_)
      show (if w ≠ 0 then _ else _) = _
      rw [if_pos c0]
      refine bdk z8R9 (bdk (n0I nb188) ?_)
      rw [h10]
    · rw [if_pos c1, if_neg (by omega)]
      exact bdk z8T (bdk need0 rfl)
theorem x9_clash {w : Int} (hw : WF T) (hT : RefT T I) (hF : RefF T I) (h17 : I 1170 17 = -1) (h19 : I 1170 19 = -1) :
    if 0 ≤ w ∧ w ≤ 1 then ∃ I', D_X9_clash 1170 w (st true n c I W p) = some (clashS T w, st true n c I' W p) ∧ AskM T I I' else D_X9_clash 1170 w (st true n c I W p) = some (0, st true n c (rJ (zJ I) 1 1) W p) := by
  by_cases q : 0 ≤ w ∧ w ≤ 1
  · rw [if_pos q]
    obtain ⟨I', e, hA⟩ := x9_laysPlain (n := n) (c := c) (W := W) (p := p) hw hT hF h17 h19
    refine ⟨I', ?_, hA⟩
    have hN := hA.2.2.1.1
    rw [FP_plain] at hN
    obtain ⟨-, -, h24, h21, -⟩ := hN.2.1
    unfold D_X9_clash D_X9_clash_53 clashS
    refine bdk z9Z (bdk within_k (bdk z9T ?_))
    rw [if_pos q]
    refine bdk (fine1 zJ0) ?_
    show (if (1 : Int) ≠ 0 then _ else _) = _
    rw [if_pos (by decide)]
    refine bdk z9T (bdk e (bdk z9I ?_))
    rw [h24]
    by_cases k : nCs (runS T (-1) (FS T)).1 = -2
    · rw [if_pos k, if_neg (by decide)]
      by_cases c0 : w = 0
      · rw [if_pos c0, CR_runS k]
      · rw [if_neg c0, k]
    · rw [if_neg k, if_pos (by decide)]
      by_cases c0 : w = 0
      · rw [if_neg (fun v => v c0), if_pos c0]
        refine bdk z9I ?_
        rw [(h21 k).1]
      · rw [if_pos c0, if_neg c0]
        refine bdk z9I ?_
        rw [(h21 k).2]
  · rw [if_neg q]
    unfold D_X9_clash
    refine bdk z9Z (bdk within_k (bdk z9T ?_))
    rw [if_neg q]
    refine bdk (fine0 (kind := 1) (by decide) (by decide) zJ0) ?_
    show (if (0 : Int) ≠ 0 then _ else _) = _
    rw [if_neg (by decide)]
end CD
