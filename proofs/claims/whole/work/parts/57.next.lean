/-! THE PURE PART: the next year in and out, all years from one to another -/
theorem m1_all : (-1 : BitVec 64) = BitVec.allOnes 64 := by decide
section YN
variable {g : Bool} {n : Nat} {c : Nat × Nat × Nat × Nat} {I : Nat → Nat → Int} {W : Nat → Nat → BitVec 64} {p : Nat → Nat} {a : Nat}
theorem nextIn_L (h : HC g a = (52, 16)) {s : Nat} (hs : s < 1000) : ∀ d w f (x2 : BitVec 64), w + d = 16 → d < f → s / 64 ≤ w → (w = s / 64 → x2 = W a w &&& (BitVec.allOnes 64 <<< (s % 64))) → (∀ j, s ≤ j → j < 64 * w → wb (W a) j = false) →
    (D_X7_nextIn_33 f a (s : Int) x2 (w : Nat) (st g n c I W p) = some (Sum.inl ()) ∧ ∀ j, s ≤ j → j < 1024 → wb (W a) j = false) ∨ ∃ r : Nat, s ≤ r ∧ r < 1024 ∧ wb (W a) r = true ∧ (∀ j, s ≤ j → j < r → wb (W a) j = false) ∧ D_X7_nextIn_33 f a (s : Int) x2 (w : Nat) (st g n c I W p) = some (Sum.inr (r : Int)) := by
  intro d
  induction d with
  | zero =>
    intro w f x2 hw hf h1 h2 h3
    obtain ⟨f, rfl⟩ : ∃ g, f = g + 1 := ⟨f - 1, by omega⟩
    have e : w = 16 := by omega
    subst e
    exact Or.inl ⟨if_pos (by omega), h3⟩
  | succ d ih =>
    intro w f x2 hw hf h1 h2 h3
    obtain ⟨f, rfl⟩ : ∃ g, f = g + 1 := ⟨f - 1, by omega⟩
    have key : ∃ y0 : BitVec 64, D_X7_nextIn_33 (f + 1) a (s : Int) x2 (w : Nat) (st g n c I W p) = D_X7_nextIn_57 (D_X7_nextIn_33 f) a (s : Int) (w : Nat) y0 (st g n c I W p) ∧ ∀ j, j < 64 → y0.getLsbD j = (decide (s ≤ 64 * w + j) && wb (W a) (64 * w + j)) := by
      have o : ∀ j, j < 64 → (W a w).getLsbD j = wb (W a) (64 * w + j) := by
        intro j hj
        unfold wb
        rw [show (64 * w + j) / 64 = w by omega, show (64 * w + j) % 64 = j by omega]
      by_cases q : w = s / 64
      · refine ⟨x2, ?_, ?_⟩
        · show (if (16 : Int) ≤ (w : Nat) then _ else _) = _
          rw [if_neg (by omega), if_neg (by rw [wsel (by omega)]; omega)]
        · intro j hj
          rw [h2 q, BitVec.getLsbD_and, BitVec.getLsbD_shiftLeft, BitVec.getLsbD_allOnes, o j hj, Bool.and_comm]
          congr 1
          by_cases r : s ≤ 64 * w + j
          · have : ¬ j < s % 64 := by omega
            simp [r, this, hj]
            omega
          · have : j < s % 64 := by omega
            simp [r, this]
      · refine ⟨W a w, ?_, ?_⟩
        · show (if (16 : Int) ≤ (w : Nat) then _ else _) = _
          rw [if_neg (by omega), if_pos (by rw [wsel (by omega)]; omega)]
          exact bdk (s_lL h (by omega) (by omega)) rfl
        · intro j hj
          rw [o j hj, decide_eq_true (show s ≤ 64 * w + j by omega), Bool.true_and]
    obtain ⟨y0, hk, hy⟩ := key
    rw [hk]
    unfold D_X7_nextIn_57
    by_cases z : y0 = 0
    · rw [if_pos (mlcmp_0.2 z), mw_n (by omega)]
      refine ih (w + 1) f y0 (by omega) (by omega) (by omega) (fun q => by omega) ?_
      intro j j1 j2
      by_cases q : j < 64 * w
      · exact h3 j j1 q
      · have := hy (j - 64 * w) (by omega)
        rw [z, show 64 * w + (j - 64 * w) = j by omega, decide_eq_true j1, Bool.true_and] at this
        rw [← this]
        exact BitVec.getLsbD_zero
    · rw [if_neg (fun q => z (mlcmp_0.1 q))]
      obtain ⟨t, ht⟩ := low_ex y0.toNat (fun q => z (BitVec.eq_of_toNat_eq (by rw [q]; rfl)))
      have t64 : t < 64 := low_lt ht y0.isLt
      have e1 := hy t t64
      rw [show y0.getLsbD t = true from low_at ht] at e1
      have e2 : s ≤ 64 * w + t := by
        by_cases q : s ≤ 64 * w + t
        · exact q
        · rw [decide_eq_false q] at e1; cases e1
      rw [decide_eq_true e2, Bool.true_and] at e1
      refine Or.inr ⟨64 * w + t, e2, by omega, e1.symm, ?_, ?_⟩
      · intro j j1 j2
        by_cases q : j < 64 * w
        · exact h3 j j1 q
        · have := hy (j - 64 * w) (by omega)
          rw [show 64 * w + (j - 64 * w) = j by omega, decide_eq_true j1, Bool.true_and] at this
          rw [← this]
          exact low_below ht (by omega)
      · refine bdk (ntz64 ht) ?_
        show some (Sum.inr (mw ((mw (64 * ((w : Nat) : Int))) + (t : Int)))) = _
        rw [mw_of (x := 64 * ((w : Nat) : Int)) (by omega) (by omega), mw_of (by omega) (by omega), show 64 * ((w : Nat) : Int) + (t : Int) = ((64 * w + t : Nat) : Int) by omega]
theorem nextIn_k (h : HC g a = (52, 16)) (hc : clean (W a)) (s : Nat) : D_X7_nextIn a (s : Int) (st g n c I W p) = some ((if s < 1000 then nx (wb (W a)) s else 1000 : Nat) : Int) := by
  unfold D_X7_nextIn
  by_cases hs : s < 1000
  · rw [if_pos (by omega), if_pos hs, wsel (by omega)]
    refine bdk (s_lL h (by omega) (by omega)) ?_
    have hL := nextIn_L (n := n) (c := c) (I := I) (W := W) (p := p) h hs (16 - s / 64) (s / 64) mFU (W a (s / 64) &&& (BitVec.allOnes 64 <<< (s % 64))) (by omega) (by unfold mFU; omega) (Nat.le_refl _) (fun _ => rfl) (fun j j1 j2 => by omega)
    rw [mand_63 (by omega), mlshl_k (by omega), m1_all, show ((s / 64 : Nat) : Int).toNat = s / 64 by omega]
    rcases hL with ⟨e, h1⟩ | ⟨r, r1, r2, r3, r4, e⟩
    · refine bdk e ?_
      rw [nx_is (p := wb (W a)) (i := s) (r := 1000) (by omega) (by omega) (fun j j1 j2 => h1 j j1 (by omega)) (fun q => by omega)]
      rfl
    · refine bdk e ?_
      have r5 : r < 1000 := by
        by_cases q : r < 1000
        · exact q
        · rw [hc r (by omega) r2] at r3; cases r3
      rw [nx_is (p := wb (W a)) (i := s) (r := r) r1 (by omega) r4 (fun _ => r3)]
  · rw [if_neg (by omega), if_neg hs]
    rfl
theorem nextOut_L (h : HC g a = (52, 16)) {s : Nat} (hs : s < 1000) : ∀ d w f (x2 : BitVec 64), w + d = 16 → d < f → s / 64 ≤ w → (w = s / 64 → x2 = (W a w ^^^ (-1 : BitVec 64)) &&& (BitVec.allOnes 64 <<< (s % 64))) → (∀ j, s ≤ j → j < 64 * w → (!wb (W a) j) = false) →
    (D_X7_nextOut_37 f a (s : Int) x2 (w : Nat) (st g n c I W p) = some (Sum.inl ()) ∧ ∀ j, s ≤ j → j < 1024 → (!wb (W a) j) = false) ∨ ∃ r : Nat, s ≤ r ∧ r < 1024 ∧ (!wb (W a) r) = true ∧ (∀ j, s ≤ j → j < r → (!wb (W a) j) = false) ∧ D_X7_nextOut_37 f a (s : Int) x2 (w : Nat) (st g n c I W p) = some (Sum.inr (if (r : Int) < 1000 then (r : Int) else 1000)) := by
  intro d
  induction d with
  | zero =>
    intro w f x2 hw hf h1 h2 h3
    obtain ⟨f, rfl⟩ : ∃ g, f = g + 1 := ⟨f - 1, by omega⟩
    have e : w = 16 := by omega
    subst e
    exact Or.inl ⟨if_pos (by omega), h3⟩
  | succ d ih =>
    intro w f x2 hw hf h1 h2 h3
    obtain ⟨f, rfl⟩ : ∃ g, f = g + 1 := ⟨f - 1, by omega⟩
    have key : ∃ y0 : BitVec 64, D_X7_nextOut_37 (f + 1) a (s : Int) x2 (w : Nat) (st g n c I W p) = D_X7_nextOut_65 (D_X7_nextOut_37 f) a (s : Int) (w : Nat) y0 (st g n c I W p) ∧ ∀ j, j < 64 → y0.getLsbD j = (decide (s ≤ 64 * w + j) && (!wb (W a) (64 * w + j))) := by
      have o : ∀ j, j < 64 → ((W a w ^^^ (-1 : BitVec 64))).getLsbD j = (!wb (W a) (64 * w + j)) := by
        intro j hj
        unfold wb
        rw [show (64 * w + j) / 64 = w by omega, show (64 * w + j) % 64 = j by omega]
        exact by rw [BitVec.getLsbD_xor, m1_all, BitVec.getLsbD_allOnes]; simp [hj]
      by_cases q : w = s / 64
      · refine ⟨x2, ?_, ?_⟩
        · show (if (16 : Int) ≤ (w : Nat) then _ else _) = _
          rw [if_neg (by omega), if_neg (by rw [wsel (by omega)]; omega)]
        · intro j hj
          rw [h2 q, BitVec.getLsbD_and, BitVec.getLsbD_shiftLeft, BitVec.getLsbD_allOnes, o j hj, Bool.and_comm]
          congr 1
          by_cases r : s ≤ 64 * w + j
          · have : ¬ j < s % 64 := by omega
            simp [r, this, hj]
            omega
          · have : j < s % 64 := by omega
            simp [r, this]
      · refine ⟨(W a w ^^^ (-1 : BitVec 64)), ?_, ?_⟩
        · show (if (16 : Int) ≤ (w : Nat) then _ else _) = _
          rw [if_neg (by omega), if_pos (by rw [wsel (by omega)]; omega)]
          exact bdk (s_lL h (by omega) (by omega)) rfl
        · intro j hj
          rw [o j hj, decide_eq_true (show s ≤ 64 * w + j by omega), Bool.true_and]
    obtain ⟨y0, hk, hy⟩ := key
    rw [hk]
    unfold D_X7_nextOut_65
    by_cases z : y0 = 0
    · rw [if_pos (mlcmp_0.2 z), mw_n (by omega)]
      refine ih (w + 1) f y0 (by omega) (by omega) (by omega) (fun q => by omega) ?_
      intro j j1 j2
      by_cases q : j < 64 * w
      · exact h3 j j1 q
      · have := hy (j - 64 * w) (by omega)
        rw [z, show 64 * w + (j - 64 * w) = j by omega, decide_eq_true j1, Bool.true_and] at this
        rw [← this]
        exact BitVec.getLsbD_zero
    · rw [if_neg (fun q => z (mlcmp_0.1 q))]
      obtain ⟨t, ht⟩ := low_ex y0.toNat (fun q => z (BitVec.eq_of_toNat_eq (by rw [q]; rfl)))
      have t64 : t < 64 := low_lt ht y0.isLt
      have e1 := hy t t64
      rw [show y0.getLsbD t = true from low_at ht] at e1
      have e2 : s ≤ 64 * w + t := by
        by_cases q : s ≤ 64 * w + t
        · exact q
        · rw [decide_eq_false q] at e1; cases e1
      rw [decide_eq_true e2, Bool.true_and] at e1
      refine Or.inr ⟨64 * w + t, e2, by omega, e1.symm, ?_, ?_⟩
      · intro j j1 j2
        by_cases q : j < 64 * w
        · exact h3 j j1 q
        · have := hy (j - 64 * w) (by omega)
          rw [show 64 * w + (j - 64 * w) = j by omega, decide_eq_true j1, Bool.true_and] at this
          rw [← this]
          exact low_below ht (by omega)
      · refine bdk (ntz64 ht) ?_
        show some (Sum.inr (if (mw ((mw (64 * ((w : Nat) : Int))) + (t : Int))) < 1000 then (mw ((mw (64 * ((w : Nat) : Int))) + (t : Int))) else 1000)) = _
        rw [mw_of (x := 64 * ((w : Nat) : Int)) (by omega) (by omega), mw_of (by omega) (by omega), show 64 * ((w : Nat) : Int) + (t : Int) = ((64 * w + t : Nat) : Int) by omega]
theorem nextOut_k (h : HC g a = (52, 16)) (s : Nat) : D_X7_nextOut a (s : Int) (st g n c I W p) = some ((if s < 1000 then nx (fun y => !wb (W a) y) s else 1000 : Nat) : Int) := by
  unfold D_X7_nextOut
  by_cases hs : s < 1000
  · rw [if_pos (by omega), if_pos hs, wsel (by omega)]
    refine bdk (s_lL h (by omega) (by omega)) ?_
    have hL := nextOut_L (n := n) (c := c) (I := I) (W := W) (p := p) h hs (16 - s / 64) (s / 64) mFU ((W a (s / 64) ^^^ (-1 : BitVec 64)) &&& (BitVec.allOnes 64 <<< (s % 64))) (by omega) (by unfold mFU; omega) (Nat.le_refl _) (fun _ => rfl) (fun j j1 j2 => by omega)
    rw [mand_63 (by omega), mlshl_k (by omega), show ((s / 64 : Nat) : Int).toNat = s / 64 by omega, ← m1_all] at *
    rcases hL with ⟨e, h1⟩ | ⟨r, r1, r2, r3, r4, e⟩
    · refine bdk e ?_
      rw [nx_is (p := fun y => !wb (W a) y) (i := s) (r := 1000) (by omega) (by omega) (fun j j1 j2 => h1 j j1 (by omega)) (fun q => by omega)]
      rfl
    · refine bdk e ?_
      by_cases r5 : r < 1000
      · rw [nx_is (p := fun y => !wb (W a) y) (i := s) (r := r) r1 (by omega) r4 (fun _ => r3), if_pos (by omega)]
      · rw [nx_is (p := fun y => !wb (W a) y) (i := s) (r := 1000) (by omega) (by omega) (fun j j1 j2 => r4 j j1 (by omega)) (fun q => by omega), if_neg (by omega)]
        rfl
  · rw [if_neg (by omega), if_neg hs]
    rfl
theorem putAll_L (h : HC g a = (52, 16)) {S E : Nat} (hS : S ≤ E) (hE : E < 1000) : ∀ d w f (W1 : Nat → Nat → BitVec 64), w + d = E / 64 + 1 → d < f → S / 64 ≤ w → (∀ b, b ≠ a → W1 b = W b) → (∀ z, wb (W1 a) z = (wb (W a) z || decide (S ≤ z ∧ z ≤ E ∧ z < 64 * w))) →
    ∃ W', D_X7_putAll_39 f a (S : Int) (E : Int) ((S / 64 : Nat) : Int) ((E / 64 : Nat) : Int) (w : Nat) (st g n c I W1 p) = some (st g n c I W' p) ∧ (∀ b, b ≠ a → W' b = W b) ∧ ∀ z, wb (W' a) z = (wb (W a) z || decide (S ≤ z ∧ z ≤ E)) := by
  intro d
  induction d with
  | zero =>
    intro w f W1 hw hf h1 h2 h3
    obtain ⟨f, rfl⟩ : ∃ g, f = g + 1 := ⟨f - 1, by omega⟩
    refine ⟨W1, if_pos (by omega), h2, fun z => ?_⟩
    rw [h3]
    congr 1
    rw [decide_eq_decide]
    omega
  | succ d ih =>
    intro w f W1 hw hf h1 h2 h3
    obtain ⟨f, rfl⟩ : ∃ g, f = g + 1 := ⟨f - 1, by omega⟩
    have key : ∃ lo up : BitVec 64, D_X7_putAll_39 (f + 1) a (S : Int) (E : Int) ((S / 64 : Nat) : Int) ((E / 64 : Nat) : Int) (w : Nat) (st g n c I W1 p) = D_X7_putAll_94 (D_X7_putAll_39 f) a (S : Int) (E : Int) ((S / 64 : Nat) : Int) ((E / 64 : Nat) : Int) (w : Nat) lo up (st g n c I W1 p) ∧
        (∀ j, j < 64 → lo.getLsbD j = decide (S ≤ 64 * w + j)) ∧ ∀ j, j < 64 → up.getLsbD j = decide (64 * w + j ≤ E) := by
      have lo : ∃ lo : BitVec 64, D_X7_putAll_39 (f + 1) a (S : Int) (E : Int) ((S / 64 : Nat) : Int) ((E / 64 : Nat) : Int) (w : Nat) (st g n c I W1 p) = D_X7_putAll_67 (D_X7_putAll_39 f) a (S : Int) (E : Int) ((S / 64 : Nat) : Int) ((E / 64 : Nat) : Int) (w : Nat) lo (st g n c I W1 p) ∧ ∀ j, j < 64 → lo.getLsbD j = decide (S ≤ 64 * w + j) := by
        by_cases q : w = S / 64
        · refine ⟨BitVec.allOnes 64 <<< (S % 64), ?_, ?_⟩
          · show (if ((E / 64 : Nat) : Int) < (w : Nat) then _ else _) = _
            rw [if_neg (by omega), if_neg (by omega), mand_63 (by omega), mlshl_k (by omega), m1_all]
          · intro j hj
            rw [BitVec.getLsbD_shiftLeft, BitVec.getLsbD_allOnes]
            by_cases r : S ≤ 64 * w + j
            · have : ¬ j < S % 64 := by omega
              simp [r, this, hj]
              omega
            · have : j < S % 64 := by omega
              simp [r, this]
        · refine ⟨-1, ?_, ?_⟩
          · show (if ((E / 64 : Nat) : Int) < (w : Nat) then _ else _) = _
            rw [if_neg (by omega), if_pos (by omega)]
          · intro j hj
            rw [m1_all, BitVec.getLsbD_allOnes]
            rw [decide_eq_decide]
            omega
      obtain ⟨lo, e1, e2⟩ := lo
      by_cases q : w = E / 64
      · refine ⟨lo, BitVec.allOnes 64 >>> (63 - E % 64), ?_, e2, ?_⟩
        · rw [e1]
          unfold D_X7_putAll_67
          rw [if_neg (by omega), mand_63 (by omega), mw_of (by omega) (by omega), show (63 - ((E % 64 : Nat) : Int)) = ((63 - E % 64 : Nat) : Int) by omega, mlushr_k (by omega), m1_all]
        · intro j hj
          rw [BitVec.getLsbD_ushiftRight, BitVec.getLsbD_allOnes, decide_eq_decide]
          omega
      · refine ⟨lo, -1, ?_, e2, ?_⟩
        · rw [e1]
          unfold D_X7_putAll_67
          rw [if_pos (by omega)]
        · intro j hj
          rw [m1_all, BitVec.getLsbD_allOnes, decide_eq_decide]
          omega
    obtain ⟨lo, up, hk, hlo, hup⟩ := key
    rw [hk]
    unfold D_X7_putAll_94
    have step2 : (sL (st g n c I W1 p) a (w : Nat) (W1 a ((w : Nat) : Int).toNat ||| (lo &&& up))) = some (st g n c I (u2 W1 a w (W1 a w ||| (lo &&& up))) p) := s_sL h (by omega) (by omega)
    have fin := ih (w + 1) f (u2 W1 a w (W1 a w ||| (lo &&& up))) (by omega) (by omega) (by omega) (fun b hb => by rw [← h2 b hb]; funext k; exact if_neg (fun q => hb q.1)) (fun z => by
      by_cases q : z / 64 = w
      · have e : wb (u2 W1 a w (W1 a w ||| (lo &&& up)) a) z = (W1 a w ||| (lo &&& up)).getLsbD (z % 64) := by
          unfold wb
          rw [q]
          exact congrArg (fun v : BitVec 64 => v.getLsbD (z % 64)) (if_pos ⟨rfl, rfl⟩)
        have e0 : (W1 a w).getLsbD (z % 64) = wb (W1 a) z := by unfold wb; rw [q]
        have hz : 64 * w + z % 64 = z := by omega
        rw [e, BitVec.getLsbD_or, BitVec.getLsbD_and, hlo _ (by omega), hup _ (by omega), e0, h3, hz]
        have d0 : decide (S ≤ z ∧ z ≤ E ∧ z < 64 * w) = false := decide_eq_false (by omega)
        have d1 : decide (S ≤ z ∧ z ≤ E ∧ z < 64 * (w + 1)) = (decide (S ≤ z) && decide (z ≤ E)) := by
          rw [← Bool.decide_and, decide_eq_decide]
          omega
        rw [d0, d1, Bool.or_false]
      · have e : wb (u2 W1 a w (W1 a w ||| (lo &&& up)) a) z = wb (W1 a) z := wb_ext (if_neg (fun r => q r.2))
        rw [e, h3]
        congr 1
        rw [decide_eq_decide]
        omega)
    obtain ⟨W', e1, e2⟩ := fin
    refine ⟨W', bdk (s_lL h (by omega) (by omega)) (bdk step2 ?_), e2⟩
    rw [mw_n (by omega)]
    exact e1
theorem putAll_k (h : HC g a = (52, 16)) {x y : Int} (hx : mIn x) (hy : mIn y) : ∃ W', D_X7_putAll a x y (st g n c I W p) = some (st g n c I W' p) ∧ (∀ b, b ≠ a → W' b = W b) ∧ ∀ z, wb (W' a) z = (wb (W a) z || decide (x ≤ (z : Int) ∧ (z : Int) ≤ y ∧ z < 1000)) := by
  unfold mIn at hx hy
  unfold D_X7_putAll
  obtain ⟨S, hS⟩ : ∃ S : Nat, (if x < 0 then 0 else x) = (S : Int) := by
    by_cases q : x < 0
    · exact ⟨0, by rw [if_pos q]; rfl⟩
    · exact ⟨x.toNat, by rw [if_neg q]; omega⟩
  rw [hS]
  have hS2 : ∀ z : Nat, x ≤ (z : Int) ↔ S ≤ z := fun z => by split at hS <;> omega
  by_cases q : (S : Int) ≤ (if 999 < y then 999 else y)
  · rw [if_pos q]
    obtain ⟨E, hE⟩ : ∃ E : Nat, (if 999 < y then 999 else y) = (E : Int) := ⟨(if 999 < y then 999 else y).toNat, by omega⟩
    rw [hE] at q ⊢
    have hE2 : ∀ z : Nat, ((z : Int) ≤ y ∧ z < 1000) ↔ z ≤ E := fun z => by split at hE <;> omega
    have hE3 : E < 1000 := by split at hE <;> omega
    rw [wsel (by omega), wsel (by omega)]
    obtain ⟨W', e, f1, f2⟩ := putAll_L (n := n) (c := c) (I := I) (W := W) (p := p) h (S := S) (E := E) (by omega) hE3 (E / 64 + 1 - S / 64) (S / 64) mFU W (by omega) (by unfold mFU; omega) (Nat.le_refl _) (fun b _ => rfl) (fun z => by
      rw [decide_eq_false (by omega), Bool.or_false])
    refine ⟨W', bdk e rfl, f1, fun z => ?_⟩
    rw [f2]
    congr 1
    rw [decide_eq_decide, hS2, hE2]
  · rw [if_neg q]
    refine ⟨W, rfl, fun b _ => rfl, fun z => ?_⟩
    rw [decide_eq_false, Bool.or_false]
    rintro ⟨q1, q2, q3⟩
    rw [hS2] at q1
    apply q
    split <;> omega
end YN
