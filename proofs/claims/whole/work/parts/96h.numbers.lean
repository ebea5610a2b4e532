/-! THE PURE PART: other numbers told: what they leave alone -/
def putT (T : Td) (i : Nat) (v : Int) : Td := fun j => if j = i then v else T j
section PU
variable {T : Td} {i : Nat} {v : Int}
theorem putT_hi (hi : i < 2) {j : Nat} (hj : 2 ≤ j) : putT T i v j = T j := if_neg (by omega)
theorem putT_at : putT T i v i = v := if_pos rfl
theorem putT_ne {j : Nat} (h : j ≠ i) : putT T i v j = T j := if_neg h
theorem putT_put {w : Int} : putT (putT T i v) i w = putT T i w := by
  funext j
  unfold putT
  by_cases q : j = i
  · rw [if_pos q, if_pos q]
  · rw [if_neg q, if_neg q, if_neg q]
theorem putT_self : putT T i (T i) = T := by
  funext j
  unfold putT
  by_cases q : j = i
  · rw [if_pos q, q]
  · rw [if_neg q]
theorem p2 (hi : i < 2) : putT T i v 2 = T 2 := putT_hi hi (by omega)
theorem p303 (hi : i < 2) : putT T i v 303 = T 303 := putT_hi hi (by omega)
theorem p304 (hi : i < 2) : putT T i v 304 = T 304 := putT_hi hi (by omega)
theorem p305 (hi : i < 2) : putT T i v 305 = T 305 := putT_hi hi (by omega)
theorem p310 (hi : i < 2) (k : Nat) : putT T i v (310 + k) = T (310 + k) := putT_hi hi (by omega)
theorem p310s (hi : i < 2) (k : Nat) : putT T i v (310 + k + 1) = T (310 + k + 1) := putT_hi hi (by omega)
theorem p330 (hi : i < 2) (k : Nat) : putT T i v (330 + k) = T (330 + k) := putT_hi hi (by omega)
theorem p330s (hi : i < 2) (k : Nat) : putT T i v (330 + k + 1) = T (330 + k + 1) := putT_hi hi (by omega)
theorem p350 (hi : i < 2) (k : Nat) : putT T i v (350 + k) = T (350 + k) := putT_hi hi (by omega)
theorem p360 (hi : i < 2) (q k : Nat) : putT T i v (360 + 6 * q + k) = T (360 + 6 * q + k) := putT_hi hi (by omega)
theorem tRu_put (hi : i < 2) (r w : Nat) : tRu (putT T i v) r w = tRu T r w := putT_hi hi (by omega)
theorem tSa_put (hi : i < 2) (s w : Nat) : tSa (putT T i v) s w = tSa T s w := putT_hi hi (by omega)
theorem tPn_put (hi : i < 2) (q : Nat) : tPn (putT T i v) q = tPn T q := by unfold tPn; rw [p350 hi]
theorem tPm_put (hi : i < 2) (q k : Nat) : tPm (putT T i v) q k = tPm T q k := by unfold tPm; rw [p360 hi]
theorem nRu_put (hi : i < 2) : nRu (putT T i v) = nRu T := by unfold nRu; rw [p2 hi]
theorem nSa_put (hi : i < 2) : nSa (putT T i v) = nSa T := by unfold nSa; rw [p304 hi]
theorem nPh_put (hi : i < 2) : nPh (putT T i v) = nPh T := by unfold nPh; rw [p305 hi]
theorem nKn_put (hi : i < 2) : nKn (putT T i v) = nKn T := by unfold nKn; rw [p303 hi]
theorem opsR_put (hi : i < 2) (r : Nat) : opsR (putT T i v) r = opsR T r := by
  unfold opsR
  simp only [tRu_put hi, tPn_put hi, tPm_put hi]
theorem rndN_put (hi : i < 2) {sk : Int} : ∀ (d r : Nat) (N : NS), rndN (putT T i v) sk d r N = rndN T sk d r N := by
  intro d
  induction d with
  | zero => intro r N; rfl
  | succ d ih =>
    intro r N
    show rndN (putT T i v) sk d (r + 1) (if (r : Int) = sk then N else doL r (opsR (putT T i v) r) N) = rndN T sk d (r + 1) (if (r : Int) = sk then N else doL r (opsR T r) N)
    rw [opsR_put hi, ih]
theorem runN_put (hi : i < 2) {sk : Int} : ∀ (f k : Nat) (N : NS), runN (putT T i v) sk f k N = runN T sk f k N := by
  intro f
  induction f with
  | zero => intro k N; rfl
  | succ f ih =>
    intro k N
    show (if nCh (rndN (putT T i v) sk (nRu (putT T i v)) 0 (ch0 N)) = 0 then (rndN (putT T i v) sk (nRu (putT T i v)) 0 (ch0 N), k + 1) else runN (putT T i v) sk f (k + 1) (rndN (putT T i v) sk (nRu (putT T i v)) 0 (ch0 N))) = (if nCh (rndN T sk (nRu T) 0 (ch0 N)) = 0 then (rndN T sk (nRu T) 0 (ch0 N), k + 1) else runN T sk f (k + 1) (rndN T sk (nRu T) 0 (ch0 N)))
    rw [nRu_put hi, rndN_put hi, ih]
theorem runS_put (hi : i < 2) {sk : Int} {S : Nat → Nat → Bool} : runS (putT T i v) sk S = runS T sk S := by
  unfold runS startN
  rw [runN_put hi, nSa_put hi]
theorem segA_put (hi : i < 2) (k : Nat) (y : Int) : segA (putT T i v) k y = segA T k y := by
  unfold segA
  simp only [p310 hi, p310s hi, p330 hi, p330s hi]
theorem ageK_put (hi : i < 2) (y : Int) : ∀ k, ageK (putT T i v) y k = ageK T y k := by
  intro k
  induction k with
  | zero => rfl
  | succ k ih =>
    show (if putT T i v (310 + k) ≤ y ∧ y ≤ putT T i v (310 + k + 1) then segA (putT T i v) k y else ageK (putT T i v) y k) = (if T (310 + k) ≤ y ∧ y ≤ T (310 + k + 1) then segA T k y else ageK T y k)
    rw [p310 hi, p310s hi, segA_put hi, ih]
theorem ageS_put (hi : i < 2) (y : Int) : ageS (putT T i v) y = ageS T y := by
  unfold ageS
  rw [ageK_put hi, nKn_put hi]
theorem misR_put (hi : i < 2) {rv : Int} {s : Nat} {y : Int} : ∀ (d k : Nat) (acc : Int), misR (putT T i v) rv s y d k acc = misR T rv s y d k acc := by
  intro d
  induction d with
  | zero => intro k acc; rfl
  | succ d ih =>
    intro k acc
    rw [misR_s, misR_s, tSa_put hi, tSa_put hi, ageS_put hi, ih]
theorem misS_put (hi : i < 2) {rv : Int} {s : Nat} {y : Int} : misS (putT T i v) rv s y = misS T rv s y := by
  unfold misS
  simp only [tSa_put hi, ageS_put hi, misR_put hi]
theorem lmS_put (hi : i < 2) {rv : Int} {s : Nat} : ∀ (d y : Nat) (b : Int), lmS (putT T i v) rv s d y b = lmS T rv s d y b := by
  intro d
  induction d with
  | zero => intro y b; rfl
  | succ d ih =>
    intro y b
    show lmS (putT T i v) rv s d (y + 1) (if misS (putT T i v) rv s y = -1 then b else if b = -1 then misS (putT T i v) rv s y else if b ≤ misS (putT T i v) rv s y then b else misS (putT T i v) rv s y) = lmS T rv s d (y + 1) (if misS T rv s y = -1 then b else if b = -1 then misS T rv s y else if b ≤ misS T rv s y then b else misS T rv s y)
    rw [misS_put hi, ih]
theorem firstS_put (hi : i < 2) {sg rv : Int} {s y : Nat} : firstS (putT T i v) sg rv s y = firstS T sg rv s y := by
  unfold firstS leastS
  simp only [misS_put hi, tSa_put hi, lmS_put hi]
theorem FS_put0 : FS (putT T 0 v) = fun s y => firstS T v (T 1) s y := by
  funext s y
  show firstS (putT T 0 v) (putT T 0 v 0) (putT T 0 v 1) s y = _
  rw [firstS_put (by decide), putT_at, putT_ne (by decide)]
theorem FS_put1 : FS (putT T 1 v) = fun s y => firstS T (T 0) v s y := by
  funext s y
  show firstS (putT T 1 v) (putT T 1 v 0) (putT T 1 v 1) s y = _
  rw [firstS_put (by decide), putT_at, putT_ne (by decide)]
theorem WF_put (hi : i < 2) (hw : WF T) (h : (i = 0 → 1 ≤ v ∧ v ≤ 3) ∧ (i = 1 → -500 ≤ v ∧ v ≤ 500)) : WF (putT T i v) := by
  obtain ⟨h1, h2, h3, h4, h5⟩ := hw
  refine ⟨?_, ?_, ?_, ?_, ?_⟩
  · unfold WFn at h1 ⊢
    rw [p2 hi, p303 hi, p304 hi, p305 hi]
    refine ⟨?_, ?_, h1.2.2⟩
    · by_cases q : i = 0
      · subst q; rw [putT_at]; exact h.1 rfl
      · rw [putT_ne (fun w => q w.symm)]; exact h1.1
    · by_cases q : i = 1
      · subst q; rw [putT_at]; exact h.2 rfl
      · rw [putT_ne (fun w => q w.symm)]; exact h1.2.1
  · unfold WFk at h2 ⊢
    simp only [p303 hi, p310 hi, p310s hi, p330 hi]
    exact h2
  · intro s hs
    rw [p304 hi] at hs
    have := h3 s hs
    unfold WFs at this ⊢
    simp only [tSa_put hi]
    exact this
  · intro q hq
    rw [p305 hi] at hq
    have := h4 q hq
    unfold WFp at this ⊢
    simp only [p350 hi, p360 hi, p304 hi]
    exact this
  · intro r hr
    rw [p2 hi] at hr
    have := h5 r hr
    unfold WFr at this ⊢
    simp only [tRu_put hi, p304 hi, p305 hi]
    exact this
theorem RefT_put {I : Nat → Nat → Int} (hi : i < 2) (h : RefT T I) : RefT (putT T i v) (u2 I 1172 i v) := by
  obtain ⟨h1, h2, h3, h4, h5, h6, h7, h8⟩ := h
  refine ⟨fun j hj => ?_, ?_, ?_, ?_, fun k hk => ?_, fun k hk => ?_, fun k hk => ?_, fun k hk => ?_⟩
  · by_cases q : j = i
    · subst q; rw [u2_eq, putT_at]
    · rw [u2_ne _ _ (by omega), putT_ne q]; exact h1 j hj
  · rw [u2_ne _ _ (by omega), p303 hi]; exact h2
  · rw [u2_ne _ _ (by omega), p304 hi]; exact h3
  · rw [u2_ne _ _ (by omega), p305 hi]; exact h4
  · rw [u2_ne _ _ (by omega), p310 hi]; exact h5 k hk
  · rw [u2_ne _ _ (by omega), p330 hi]; exact h6 k hk
  · rw [u2_ne _ _ (by omega), p350 hi]; exact h7 k hk
  · rw [u2_ne _ _ (by omega), putT_hi hi (by omega)]; exact h8 k hk
/-- without a clash by other numbers -/
def quiet (T : Td) (sg rv : Int) : Prop := nCs (runS T (-1) (fun s y => firstS T sg rv s y)).1 = -2
end PU
section GO
variable {n : Nat} {s : Sp}
theorem x8_goesBy {c : Nat × Nat × Nat × Nat} {I : Nat → Nat → Int} {W : Nat → Nat → BitVec 64} {p : Nat → Nat} {sg rv : Int} (h : IC s I W p) (hsg : 1 ≤ sg ∧ sg ≤ 3) (hrv : -500 ≤ rv ∧ rv ≤ 500) :
    ∃ v I' W', D_X8_goesBy 32 sg rv (st true n c I W p) = some (v, st true n c I' W' p) ∧ IC s I' W' p ∧ HI I I' W W' ∧ ((v = 1 ∧ quiet (sT s) sg rv) ∨ (v = 0 ∧ ¬ quiet (sT s) sg rv)) := by
  obtain ⟨I1, W1, e1, h1, i1, f1⟩ := q_first (g := true) (n := n) (c := c) h hsg hrv
  obtain ⟨I2, W2, e2, h2, i2, -, k2, -⟩ := q_run (g := true) (n := n) (c := c) (sk := -1) (u := 1) h1 f1 (Or.inr rfl)
  by_cases q : I2 221 10 = -2
  · refine ⟨1, I2, W2, ?_, h2, i1.t i2, Or.inl ⟨rfl, k2.1 q⟩⟩
    unfold D_X8_goesBy D_X8_goesBy_33
    refine bdk z8R10 (bdk (n0T nb221) (bdk e1 (bdk z8R10 (bdk (n0T nb221) (bdk e2 (bdk z8R10 (bdk (n0T nb221) (bdk q_clash ?_))))))))
    rw [if_pos q]
    show (if (0 : Int) ≠ 0 then _ else _) = _
    rw [if_neg (by decide)]
    exact bdk (x := (1 : Int)) rfl rfl
  · refine ⟨0, I2, W2, ?_, h2, i1.t i2, Or.inr ⟨rfl, fun w => q (k2.2 w)⟩⟩
    unfold D_X8_goesBy D_X8_goesBy_33
    refine bdk z8R10 (bdk (n0T nb221) (bdk e1 (bdk z8R10 (bdk (n0T nb221) (bdk e2 (bdk z8R10 (bdk (n0T nb221) (bdk q_clash ?_))))))))
    rw [if_neg q]
    show (if (1 : Int) ≠ 0 then _ else _) = _
    rw [if_pos (by decide)]
    exact bdk (x := (0 : Int)) rfl rfl
/-- the reference lays by another number -/
theorem r_try {c : Nat × Nat × Nat × Nat} {I : Nat → Nat → Int} {W : Nat → Nat → BitVec 64} {p : Nat → Nat} {T : Td} {i : Nat} {v w : Int} (hi : i < 2) (hw : WF (putT T i v)) (hT : RefT (putT T i w) I) (h28 : I 1170 28 = 0 ∨ I 1170 28 = 1) (h17 : I 1170 17 = -1) (h19 : I 1170 19 = -1) :
    ∃ I1, D_X9_lays 1170 (st true n c (u2 (u2 I 1172 i v) 1170 16 0) W p) = some (st true n c I1 W p) ∧ RefT (putT T i v) I1 ∧ (I1 1170 28 = 0 ∨ I1 1170 28 = 1) ∧ I1 1170 17 = -1 ∧ I1 1170 19 = -1 ∧ I1 1170 24 = (if nCs (runS T (-1) (FS (putT T i v))).1 = -2 then 0 else 1) ∧ Fr (fun b k => PL b k ∨ (b = 1172 ∧ k = i)) I I1 := by
  have hJ : RefT (putT T i v) (u2 (u2 I 1172 i v) 1170 16 0) := by
    have := RefT_put (T := putT T i w) (v := v) hi hT
    rw [putT_put] at this
    exact this.fr (P := fun b k => b = 1170 ∧ k = 16) (fun b k q => u2_ne _ _ q) (fun b k q => by omega)
  have ne : ∀ b k, ¬ (b = 1170 ∧ k = 16) → ¬ (b = 1172 ∧ k = i) → u2 (u2 I 1172 i v) 1170 16 0 b k = I b k := fun b k q1 q2 => by rw [u2_ne _ _ q1, u2_ne _ _ q2]
  have hF : RefF (putT T i v) (u2 (u2 I 1172 i v) 1170 16 0) := ⟨Or.inl (by rw [u2_eq]), by rw [ne _ _ (by omega) (by omega)]; exact h28, fun q => by rw [u2_eq] at q; cases q⟩
  obtain ⟨I1, e, hL, k28, f⟩ := x9_lays (n := n) (c := c) (W := W) (p := p) (ps := -1) (py := u2 (u2 I 1172 i v) 1170 16 0 1170 18) (lo := -1) hw hJ hF (by rw [ne _ _ (by omega) (by omega)]; exact h17) rfl (by rw [ne _ _ (by omega) (by omega)]; exact h19)
  have h24 := hL.1.2.1.2.2.1
  rw [FP_plain, runS_put hi] at h24
  refine ⟨I1, e, hL.1.1, Or.inr (by rw [k28]; rfl), ?_, ?_, h24, fun b k q => ?_⟩
  · rw [f _ _ (by unfold PL; omega), ne _ _ (by omega) (by omega)]; exact h17
  · rw [f _ _ (by unfold PL; omega), ne _ _ (by omega) (by omega)]; exact h19
  · rw [f _ _ (fun z => q (Or.inl z)), ne _ _ (fun z => q (Or.inl (by unfold PL; omega))) (fun z => q (Or.inr z))]
/-! the least sigma -/
def lsV (T : Td) (q : Int → Bool) : Int := if q 1 = true then 1 else if q 2 = true then 2 else if q 3 = true then 3 else -1
noncomputable def qB (T : Td) (sg rv : Int) : Bool := @decide (quiet T sg rv) (Classical.propDecidable _)
theorem qB1 {T : Td} {sg rv : Int} (h : quiet T sg rv) : qB T sg rv = true := @decide_eq_true _ (Classical.propDecidable _) h
theorem qB0 {T : Td} {sg rv : Int} (h : ¬ quiet T sg rv) : qB T sg rv = false := @decide_eq_false _ (Classical.propDecidable _) h
def lsN (q : Int → Bool) : Nat → Int → Int
  | 0, _ => -1
  | d + 1, k => if q k = true then k else lsN q d (k + 1)
theorem x8_loos2 : ∀ (d k f : Nat) (c : Nat × Nat × Nat × Nat) (I : Nat → Nat → Int) (W : Nat → Nat → BitVec 64) (p : Nat → Nat), k + d = 4 → d < f → 1 ≤ k → IC s I W p →
    ∃ I' W' R, D_X8_loosened_2 f 32 (k : Int) (st true n c I W p) = some R ∧ ((R = Sum.inl (st true n c I' W' p) ∧ lsN (fun sg => qB (sT s) sg (sT s 1)) d k = -1) ∨ R = Sum.inr (lsN (fun sg => qB (sT s) sg (sT s 1)) d k, st true n c I' W' p)) ∧ IC s I' W' p ∧ HI I I' W W' := by
  intro d
  induction d with
  | zero =>
    intro k f c I W p hk hf h1 h
    obtain ⟨f, rfl⟩ : ∃ g, f = g + 1 := ⟨f - 1, by omega⟩
    exact ⟨I, W, Sum.inl (st true n c I W p), if_pos (by omega), Or.inl ⟨rfl, rfl⟩, h, HI.r⟩
  | succ d ih =>
    intro k f c I W p hk hf h1 h
    obtain ⟨f, rfl⟩ : ∃ g, f = g + 1 := ⟨f - 1, by omega⟩
    have hn' := h.w.1
    unfold WFn at hn'
    obtain ⟨v, I1, W1, e1, k1, i1, hv⟩ := x8_goesBy (n := n) (c := c) (sg := (k : Int)) (rv := sT s 1) h (by omega) (by omega)
    have pre : ∀ {R : Option (mS ⊕ (Int × mS))}, (if v = 0 then D_X8_loosened_2 f 32 ((k + 1 : Nat) : Int) (st true n c I1 W1 p) else some (Sum.inr ((k : Int), st true n c I1 W1 p))) = R → D_X8_loosened_2 (f + 1) 32 (k : Int) (st true n c I W p) = R := by
      intro R hR
      show (if (3 : Int) < (k : Int) then _ else _) = _
      rw [if_neg (by omega)]
      refine bdk z8R1 (bdk (t5I TB34) (bdk z8T ?_))
      rw [h.T.1.2.1]
      refine bdk e1 ?_
      rw [mw_n (by omega)]
      exact hR
    have e0 : lsN (fun sg => qB (sT s) sg (sT s 1)) (d + 1) (k : Int) = if qB (sT s) (k : Int) (sT s 1) = true then (k : Int) else lsN (fun sg => qB (sT s) sg (sT s 1)) d ((k : Int) + 1) := rfl
    rcases hv with ⟨v1, hq⟩ | ⟨v1, hq⟩
    · refine ⟨I1, W1, Sum.inr ((k : Int), st true n c I1 W1 p), pre (by rw [if_neg (by omega)]), Or.inr ?_, k1, i1⟩
      rw [e0, if_pos (qB1 hq)]
    · obtain ⟨I2, W2, R, e2, r2, k2, i2⟩ := ih (k + 1) f c I1 W1 p (by omega) (by omega) (by omega) k1
      refine ⟨I2, W2, R, pre (by rw [if_pos v1]; exact e2), ?_, k2, i1.t i2⟩
      rw [e0, qB0 hq, if_neg (by decide)]
      exact r2
/-- the reference's way down -/
def LX (T : Td) (I : Nat → Nat → Int) : Prop := (∃ w, RefT (putT T 0 w) I) ∧ (I 1170 28 = 0 ∨ I 1170 28 = 1) ∧ I 1170 17 = -1 ∧ I 1170 19 = -1
def PX0 (b k : Nat) : Prop := PL b k ∨ (b = 1172 ∧ k = 0)
theorem x9_loos16 {T : Td} (hw : WF T) : ∀ (k f : Nat) (b : Int) (c : Nat × Nat × Nat × Nat) (I : Nat → Nat → Int) (W : Nat → Nat → BitVec 64) (p : Nat → Nat), k ≤ 3 → k < f → LX T I →
    ∃ I', D_X9_loosened_16 f 1170 b (k : Int) (st true n c I W p) = some (if 1 ≤ k ∧ qB T 1 (T 1) = true then 1 else if 2 ≤ k ∧ qB T 2 (T 1) = true then 2 else if 3 ≤ k ∧ qB T 3 (T 1) = true then 3 else b, st true n c I' W p) ∧ LX T I' ∧ Fr PX0 I I' := by
  intro k
  induction k with
  | zero =>
    intro f b c I W p hk hf h
    obtain ⟨f, rfl⟩ : ∃ g, f = g + 1 := ⟨f - 1, by omega⟩
    refine ⟨I, ?_, h, Fr.rfl'⟩
    rw [if_neg (fun w => by omega), if_neg (fun w => by omega), if_neg (fun w => by omega)]
    exact if_pos (by omega)
  | succ k ih =>
    intro f b c I W p hk hf h
    obtain ⟨f, rfl⟩ : ∃ g, f = g + 1 := ⟨f - 1, by omega⟩
    obtain ⟨⟨w, hT⟩, h28, h17, h19⟩ := h
    obtain ⟨I1, e1, t1, k28, k17, k19, k24, f1⟩ := r_try (n := n) (c := c) (W := W) (p := p) (i := 0) (v := ((k + 1 : Nat) : Int)) (w := w) (by decide) (WF_put (by decide) hw ⟨fun _ => by omega, fun q => by omega⟩) hT h28 h17 h19
    rw [FS_put0] at k24
    have pre : ∀ {R : Option (Int × mS)}, (if I1 1170 24 ≠ 0 then D_X9_loosened_16 f 1170 b (k : Int) (st true n c I1 W p) else D_X9_loosened_16 f 1170 ((k + 1 : Nat) : Int) (k : Int) (st true n c I1 W p)) = R → D_X9_loosened_16 (f + 1) 1170 b ((k + 1 : Nat) : Int) (st true n c I W p) = R := by
      intro R hR
      show (if ((k + 1 : Nat) : Int) < 1 then _ else _) = _
      rw [if_neg (by omega)]
      refine bdk z9R2 (bdk (z9S2 (by decide) (by decide)) (bdk (z9B (Or.inl rfl)) (bdk z9T (bdk e1 (bdk z9I ?_)))))
      unfold D_X9_loosened_46
      rw [mw_of (x := ((k + 1 : Nat) : Int) + -1) (by omega) (by omega), show ((k + 1 : Nat) : Int) + -1 = (k : Int) by omega]
      exact hR
    by_cases q : quiet T ((k + 1 : Nat) : Int) (T 1)
    · have q24 : I1 1170 24 = 0 := by rw [k24]; exact if_pos q
      obtain ⟨I2, e2, l2, f2⟩ := ih f ((k + 1 : Nat) : Int) c I1 W p (by omega) (by omega) ⟨⟨_, t1⟩, k28, k17, k19⟩
      refine ⟨I2, pre ?_, l2, Fr.trans' f1 f2⟩
      rw [if_neg (fun z => z q24), e2]
      have q1 := qB1 q
      have : k = 0 ∨ k = 1 ∨ k = 2 := by omega
      rcases this with rfl | rfl | rfl
      · rw [if_neg (fun z => by omega), if_neg (fun z => by omega), if_neg (fun z => by omega), if_pos ⟨by omega, q1⟩]; rfl
      · by_cases a1 : qB T 1 (T 1) = true
        · rw [if_pos ⟨by omega, a1⟩, if_pos ⟨by omega, a1⟩]
        · rw [if_neg (fun z => a1 z.2), if_neg (fun z => by omega), if_neg (fun z => by omega), if_neg (fun z => a1 z.2), if_pos ⟨by omega, q1⟩]; rfl
      · by_cases a1 : qB T 1 (T 1) = true
        · rw [if_pos ⟨by omega, a1⟩, if_pos ⟨by omega, a1⟩]
        · by_cases a2 : qB T 2 (T 1) = true
          · rw [if_neg (fun z => a1 z.2), if_pos ⟨by omega, a2⟩, if_neg (fun z => a1 z.2), if_pos ⟨by omega, a2⟩]
          · rw [if_neg (fun z => a1 z.2), if_neg (fun z => a2 z.2), if_neg (fun z => by omega), if_neg (fun z => a1 z.2), if_neg (fun z => a2 z.2), if_pos ⟨by omega, q1⟩]; rfl
    · have q24 : I1 1170 24 ≠ 0 := by have z : I1 1170 24 = 1 := k24.trans (if_neg q); omega
      obtain ⟨I2, e2, l2, f2⟩ := ih f b c I1 W p (by omega) (by omega) ⟨⟨_, t1⟩, k28, k17, k19⟩
      refine ⟨I2, pre ?_, l2, Fr.trans' f1 f2⟩
      rw [if_pos q24, e2]
      have q1 : ¬ qB T ((k + 1 : Nat) : Int) (T 1) = true := by rw [qB0 q]; decide
      have : k = 0 ∨ k = 1 ∨ k = 2 := by omega
      rcases this with rfl | rfl | rfl
      · rw [if_neg (fun z => by omega), if_neg (fun z => by omega), if_neg (fun z => by omega), if_neg (fun z => q1 z.2), if_neg (fun z => by omega), if_neg (fun z => by omega)]
      · by_cases a1 : qB T 1 (T 1) = true
        · rw [if_pos ⟨by omega, a1⟩, if_pos ⟨by omega, a1⟩]
        · rw [if_neg (fun z => a1 z.2), if_neg (fun z => by omega), if_neg (fun z => by omega), if_neg (fun z => a1 z.2), if_neg (fun z => q1 z.2), if_neg (fun z => by omega)]
      · by_cases a1 : qB T 1 (T 1) = true
        · rw [if_pos ⟨by omega, a1⟩, if_pos ⟨by omega, a1⟩]
        · by_cases a2 : qB T 2 (T 1) = true
          · rw [if_neg (fun z => a1 z.2), if_pos ⟨by omega, a2⟩, if_neg (fun z => a1 z.2), if_pos ⟨by omega, a2⟩]
          · rw [if_neg (fun z => a1 z.2), if_neg (fun z => a2 z.2), if_neg (fun z => by omega), if_neg (fun z => a1 z.2), if_neg (fun z => a2 z.2), if_neg (fun z => q1 z.2)]
theorem a_loosened : Agree n (p8 (D_X8_loosened 32)) (D_X9_loosened 1170) (fun _ => 0) s := by
  refine ag_v (x := lsN (fun sg => qB (sT s) sg (sT s 1)) 3 1) (s' := s) (fun c I W p h => ?_) (q9v fun c I W p h => ?_)
  · obtain ⟨I1, W1, R, e1, r1, h1, i1⟩ := x8_loos2 (n := n) 3 1 mFU c I W p rfl (by decide) (by decide) h
    refine ⟨c, I1, W1, p, ?_, h1, i1, cn0⟩
    refine bdk (x := (lsN (fun sg => qB (sT s) sg (sT s 1)) 3 1, st true n c I1 W1 p)) ?_ rfl
    unfold D_X8_loosened
    refine bdk e1 ?_
    rcases r1 with ⟨rfl, r2⟩ | rfl
    · show some ((-1 : Int), st true n c I1 W1 p) = _
      have r3 : lsN (fun sg => qB (sT s) sg (sT s 1)) 3 1 = -1 := r2
      rw [r3]
    · rfl
  · have hn' := h.w.1
    unfold WFn at hn'
    have t0 : zJ I 1172 0 = sT s 0 := (zJ_T h.T).1 0 (by decide)
    obtain ⟨I1, e1, ⟨⟨w, hT⟩, h28, h17, h19⟩, f1⟩ := x9_loos16 (n := n) h.w 3 mFU (-1) c (zJ I) W p (by decide) (by decide) ⟨⟨sT s 0, by rw [putT_self]; exact zJ_T h.T⟩, by rw [zJ_ne (by omega)]; exact h.F.2.1, by rw [zJ_ne (by omega)]; exact h.k.2.2.2.1, by rw [zJ_ne (by omega)]; exact h.k.2.2.2.2⟩
    have hT2 : RefT (sT s) (u2 (u2 I1 1172 0 (sT s 0)) 1170 16 0) := by
      have := RefT_put (T := putT (sT s) 0 w) (i := 0) (v := sT s 0) (by decide) hT
      rw [putT_put, putT_self] at this
      exact this.fr (P := fun b k => b = 1170 ∧ k = 16) (fun b k q => u2_ne _ _ q) (fun b k q => by omega)
    have ne : ∀ b k, ¬ (b = 1170 ∧ k = 16) → ¬ (b = 1172 ∧ k = 0) → u2 (u2 I1 1172 0 (sT s 0)) 1170 16 0 b k = I1 b k := fun b k q1 q2 => by rw [u2_ne _ _ q1, u2_ne _ _ q2]
    refine ⟨u2 (u2 I1 1172 0 (sT s 0)) 1170 16 0, ?_, ⟨hT2, ⟨Or.inl (by rw [u2_eq]), by rw [ne _ _ (by omega) (by omega)]; exact h28, fun q => by rw [u2_eq] at q; cases q⟩, fun b k q => ?_, by rw [ne _ _ (by omega) (by omega)]; exact h17, by rw [ne _ _ (by omega) (by omega)]; exact h19⟩, ?_⟩
    · have ev : lsN (fun sg => qB (sT s) sg (sT s 1)) 3 1 = (if 1 ≤ 3 ∧ qB (sT s) 1 (sT s 1) = true then 1 else if 2 ≤ 3 ∧ qB (sT s) 2 (sT s 1) = true then 2 else if 3 ≤ 3 ∧ qB (sT s) 3 (sT s 1) = true then 3 else -1) := by
        show (if qB (sT s) 1 (sT s 1) = true then (1 : Int) else if qB (sT s) (1 + 1) (sT s 1) = true then (1 + 1 : Int) else if qB (sT s) (1 + 1 + 1) (sT s 1) = true then (1 + 1 + 1 : Int) else -1) = _
        rw [show (1 : Int) + 1 + 1 = 3 from rfl, show (1 : Int) + 1 = 2 from rfl]
        by_cases a1 : qB (sT s) 1 (sT s 1) = true
        · rw [if_pos a1, if_pos ⟨by omega, a1⟩]
        · have b1 : ¬ ((1 : Nat) ≤ 3 ∧ qB (sT s) 1 (sT s 1) = true) := fun z => a1 z.2
          rw [if_neg a1, if_neg b1]
          by_cases a2 : qB (sT s) 2 (sT s 1) = true
          · rw [if_pos a2, if_pos ⟨by omega, a2⟩]
          · have b2 : ¬ ((2 : Nat) ≤ 3 ∧ qB (sT s) 2 (sT s 1) = true) := fun z => a2 z.2
            rw [if_neg a2, if_neg b2]
            by_cases a3 : qB (sT s) 3 (sT s 1) = true
            · rw [if_pos a3, if_pos ⟨by omega, a3⟩]
            · have b3 : ¬ ((3 : Nat) ≤ 3 ∧ qB (sT s) 3 (sT s 1) = true) := fun z => a3 z.2
              rw [if_neg a3, if_neg b3]
      rw [ev]
      unfold D_X9_loosened
      refine bdk z9Z (bdk z9R2 (bdk (z9L2 (by decide) (by decide)) ?_))
      rw [show (0 : Int).toNat = 0 from rfl, t0]
      exact bdk e1 (bdk z9R2 (bdk (z9S2 (by decide) (by decide)) (bdk (z9B (Or.inl rfl)) rfl)))
    · by_cases z1 : b = 1170 ∧ k = 16
      · exact absurd (Or.inl (Or.inl (by unfold PL; omega))) q
      · by_cases z2 : b = 1172 ∧ k = 0
        · obtain ⟨rfl, rfl⟩ := z2
          rw [u2_ne _ _ (by omega), u2_eq, h.T.1 0 (by decide)]
        · rw [ne _ _ z1 z2, f1 b k (fun z => z.elim (fun z => q (Or.inl (Or.inl z))) z2), zJ_ne (fun z => q (Or.inl (Or.inr z)))]
    · rw [ne _ _ (by omega) (by omega), f1 _ _ (by unfold PX0 PL; omega), zJ0]
/-! the reserve nearest to nothing -/
def shN (q : Int → Bool) : Nat → Int → Int
  | 0, _ => -9999
  | d + 1, k => if q (-k) = true then -k else if q k = true then k else shN q d (k + 1)
theorem shN_none {q : Int → Bool} (h : ∀ k, q k = false) : ∀ d k, shN q d k = -9999 := by
  intro d
  induction d with
  | zero => intro k; rfl
  | succ d ih =>
    intro k
    show (if q (-k) = true then -k else if q k = true then k else shN q d (k + 1)) = _
    rw [h, h, if_neg (by decide), if_neg (by decide)]
    exact ih _
theorem x8_sh32 : ∀ (d k f : Nat) (c : Nat × Nat × Nat × Nat) (I : Nat → Nat → Int) (W : Nat → Nat → BitVec 64) (p : Nat → Nat), k + d = 501 → d < f → IC s I W p →
    ∃ I' W' R, D_X8_shifted_32 f 32 (k : Int) (st true n c I W p) = some R ∧ ((R = Sum.inl (st true n c I' W' p) ∧ shN (fun rv => qB (sT s) (sT s 0) rv) d k = -9999) ∨ R = Sum.inr (shN (fun rv => qB (sT s) (sT s 0) rv) d k, st true n c I' W' p)) ∧ IC s I' W' p ∧ HI I I' W W' := by
  intro d
  induction d with
  | zero =>
    intro k f c I W p hk hf h
    obtain ⟨f, rfl⟩ : ∃ g, f = g + 1 := ⟨f - 1, by omega⟩
    exact ⟨I, W, Sum.inl (st true n c I W p), if_pos (by omega), Or.inl ⟨rfl, rfl⟩, h, HI.r⟩
  | succ d ih =>
    intro k f c I W p hk hf h
    obtain ⟨f, rfl⟩ : ∃ g, f = g + 1 := ⟨f - 1, by omega⟩
    have hn' := h.w.1
    unfold WFn at hn'
    obtain ⟨v, I1, W1, e1, k1, i1, hv⟩ := x8_goesBy (n := n) (c := c) (sg := sT s 0) (rv := -(k : Int)) h (by omega) (by omega)
    have pre : ∀ {R : Option (mS ⊕ (Int × mS))}, (if v = 0 then
        if (k : Int) ≤ 0 then
          D_X8_shifted_79 (D_X8_shifted_32 f) 32 (k : Int) (st true n c I1 W1 p)
        else
          (gR (st true n c I1 W1 p) 32 7 1).bind fun v4 =>
          (gI (st true n c I1 W1 p) v4 5 0).bind fun v5 =>
          (tgO (st true n c I1 W1 p) 32 7).bind fun _ =>
          (D_X8_goesBy 32 v5 (k : Int) (st true n c I1 W1 p)).bind fun r6 =>
          if r6.1 = 0 then
            D_X8_shifted_79 (D_X8_shifted_32 f) 32 (k : Int) r6.2
          else
            some (Sum.inr ((k : Int), r6.2))
      else
        some (Sum.inr (-(k : Int), st true n c I1 W1 p))) = R → D_X8_shifted_32 (f + 1) 32 (k : Int) (st true n c I W p) = R := by
      intro R hR
      show (if (500 : Int) < (k : Int) then _ else _) = _
      rw [if_neg (by omega)]
      refine bdk z8R1 (bdk (t5I TB34) (bdk z8T ?_))
      rw [h.T.1.1, mw_of (x := -(k : Int)) (by omega) (by omega)]
      exact bdk e1 hR
    have e0 : shN (fun rv => qB (sT s) (sT s 0) rv) (d + 1) (k : Int) = if qB (sT s) (sT s 0) (-(k : Int)) = true then -(k : Int) else if qB (sT s) (sT s 0) (k : Int) = true then (k : Int) else shN (fun rv => qB (sT s) (sT s 0) rv) d ((k : Int) + 1) := rfl
    rcases hv with ⟨v1, hq⟩ | ⟨v1, hq⟩
    · refine ⟨I1, W1, Sum.inr (-(k : Int), st true n c I1 W1 p), pre (by rw [if_neg (by omega)]), Or.inr ?_, k1, i1⟩
      rw [e0, if_pos (qB1 hq)]
    · rw [e0, qB0 hq, if_neg (by decide)]
      by_cases k0 : (k : Int) ≤ 0
      · have kz : (k : Int) = 0 := by omega
        have q2 : qB (sT s) (sT s 0) (k : Int) = false := by
          have := qB0 hq
          rw [kz] at this ⊢
          exact this
        obtain ⟨I2, W2, R, e2, r2, k2, i2⟩ := ih (k + 1) f c I1 W1 p (by omega) (by omega) k1
        refine ⟨I2, W2, R, pre ?_, ?_, k2, i1.t i2⟩
        · rw [if_pos v1, if_pos k0]
          unfold D_X8_shifted_79
          rw [mw_n (by omega)]
          exact e2
        · rw [q2, if_neg (by decide)]
          exact r2
      · obtain ⟨v2, I2, W2, e2, k2, i2, hv2⟩ := x8_goesBy (n := n) (c := c) (sg := sT s 0) (rv := (k : Int)) k1 (by omega) (by omega)
        rcases hv2 with ⟨v3, hq2⟩ | ⟨v3, hq2⟩
        · refine ⟨I2, W2, Sum.inr ((k : Int), st true n c I2 W2 p), pre ?_, Or.inr ?_, k2, i1.t i2⟩
          · rw [if_pos v1, if_neg k0]
            refine bdk z8R1 (bdk (t5I TB34) (bdk z8T ?_))
            rw [k1.T.1.1]
            refine bdk e2 ?_
            show (if v2 = 0 then _ else _) = _
            rw [if_neg (by omega)]
          · rw [if_pos (qB1 hq2)]
        · obtain ⟨I3, W3, R, e3, r3, k3, i3⟩ := ih (k + 1) f c I2 W2 p (by omega) (by omega) k2
          refine ⟨I3, W3, R, pre ?_, ?_, k3, i1.t (i2.t i3)⟩
          · rw [if_pos v1, if_neg k0]
            refine bdk z8R1 (bdk (t5I TB34) (bdk z8T ?_))
            rw [k1.T.1.1]
            refine bdk e2 ?_
            show (if v2 = 0 then _ else _) = _
            rw [if_pos v3]
            unfold D_X8_shifted_79
            rw [mw_n (by omega)]
            exact e3
          · rw [qB0 hq2, if_neg (by decide)]
            exact r3
theorem r_quiet {c : Nat × Nat × Nat × Nat} {I : Nat → Nat → Int} {W : Nat → Nat → BitVec 64} {p : Nat → Nat} {T : Td} {rv : Int} (hw : WF T) (hrv : -500 ≤ rv ∧ rv ≤ 500) (h : RX T I) :
    ∃ v I', D_X9_isQuietBy 1170 rv (st true n c I W p) = some (v, st true n c I' W p) ∧ RX T I' ∧ Fr PX I I' ∧ ((v = 1 ∧ quiet T (T 0) rv) ∨ (v = 0 ∧ ¬ quiet T (T 0) rv)) := by
  obtain ⟨a1, a2, a3, a4, a5⟩ := h
  obtain ⟨I1, e1, t1, k28, k17, k19, k24, f1⟩ := r_try (n := n) (c := c) (I := I) (W := W) (p := p) (T := T) (i := 1) (v := rv) (w := T 1) (by decide) (WF_put (by decide) hw ⟨fun q => by omega, fun _ => hrv⟩) (by rw [putT_self]; exact a1) a2.2.1 a3 a4
  rw [FS_put1] at k24
  have ne : ∀ b k, ¬ (b = 1170 ∧ k = 16) → ¬ (b = 1172 ∧ k = 1) → u2 (u2 I1 1172 1 (T 1)) 1170 16 0 b k = I1 b k := fun b k q1 q2 => by rw [u2_ne _ _ q1, u2_ne _ _ q2]
  have hT2 : RefT T (u2 (u2 I1 1172 1 (T 1)) 1170 16 0) := by
    have := RefT_put (T := putT T 1 rv) (i := 1) (v := T 1) (by decide) t1
    rw [putT_put, putT_self] at this
    exact this.fr (P := fun b k => b = 1170 ∧ k = 16) (fun b k q => u2_ne _ _ q) (fun b k q => by omega)
  have hX : RX T (u2 (u2 I1 1172 1 (T 1)) 1170 16 0) := ⟨hT2, ⟨Or.inl (by rw [u2_eq]), by rw [ne _ _ (by omega) (by omega)]; exact k28, fun q => by rw [u2_eq] at q; cases q⟩, by rw [ne _ _ (by omega) (by omega)]; exact k17, by rw [ne _ _ (by omega) (by omega)]; exact k19, by rw [ne _ _ (by omega) (by omega), f1 _ _ (by unfold PL; omega)]; exact a5⟩
  have hf : Fr PX I (u2 (u2 I1 1172 1 (T 1)) 1170 16 0) := by
    intro b k q
    by_cases z1 : b = 1170 ∧ k = 16
    · exact absurd (Or.inl (Or.inl (by unfold PL; omega))) q
    · by_cases z2 : b = 1172 ∧ k = 1
      · obtain ⟨rfl, rfl⟩ := z2
        rw [u2_ne _ _ (by omega), u2_eq, a1.1 1 (by decide)]
      · rw [ne _ _ z1 z2, f1 b k (fun z => z.elim (fun z => q (Or.inl (Or.inl z))) z2)]
  have pre : ∀ {R : Option (Int × mS)}, (if I1 1170 24 ≠ 0 then D_X9_isQuietBy_47 0 (st true n c (u2 (u2 I1 1172 1 (T 1)) 1170 16 0) W p) else D_X9_isQuietBy_47 1 (st true n c (u2 (u2 I1 1172 1 (T 1)) 1170 16 0) W p)) = R → D_X9_isQuietBy 1170 rv (st true n c I W p) = R := by
    intro R hR
    unfold D_X9_isQuietBy
    refine bdk z9R2 (bdk (z9L2 (by decide) (by decide)) ?_)
    rw [show (1 : Int).toNat = 1 from rfl, a1.1 1 (by decide)]
    refine bdk z9R2 (bdk (z9S2 (by decide) (by decide)) (bdk (z9B (Or.inl rfl)) (bdk z9T (bdk e1 (bdk z9R2 (bdk (z9S2 (by decide) (by decide)) (bdk (z9B (Or.inl rfl)) (bdk z9I ?_))))))))
    have e24 : u2 (u2 I1 1172 (1 : Int).toNat (T 1)) 1170 16 0 1170 24 = I1 1170 24 := by rw [u2_ne _ _ (by omega), u2_ne _ _ (by omega)]
    rw [e24]
    exact hR
  by_cases q : quiet T (T 0) rv
  · refine ⟨1, _, pre ?_, hX, hf, Or.inl ⟨rfl, q⟩⟩
    have q24 : I1 1170 24 = 0 := by rw [k24]; exact if_pos q
    rw [if_neg (fun z => z q24)]
    exact bdk (x := (1 : Int)) rfl rfl
  · refine ⟨0, _, pre ?_, hX, hf, Or.inr ⟨rfl, q⟩⟩
    have q24 : I1 1170 24 ≠ 0 := by have z : I1 1170 24 = 1 := k24.trans (if_neg q); omega
    rw [if_pos q24]
    exact bdk (x := (0 : Int)) rfl rfl
theorem x9_sh7 {T : Td} (hw : WF T) : ∀ (d k f : Nat) (c : Nat × Nat × Nat × Nat) (I : Nat → Nat → Int) (W : Nat → Nat → BitVec 64) (p : Nat → Nat), k + d = 501 → d < f → RX T I →
    ∃ I' R, D_X9_shifted_7 f 1170 (k : Int) (st true n c I W p) = some R ∧ ((R = Sum.inl (st true n c I' W p) ∧ shN (fun rv => qB T (T 0) rv) d k = -9999) ∨ R = Sum.inr (shN (fun rv => qB T (T 0) rv) d k, st true n c I' W p)) ∧ RX T I' ∧ Fr PX I I' := by
  intro d
  induction d with
  | zero =>
    intro k f c I W p hk hf h
    obtain ⟨f, rfl⟩ : ∃ g, f = g + 1 := ⟨f - 1, by omega⟩
    exact ⟨I, Sum.inl (st true n c I W p), if_pos (by omega), Or.inl ⟨rfl, rfl⟩, h, Fr.rfl'⟩
  | succ d ih =>
    intro k f c I W p hk hf h
    obtain ⟨f, rfl⟩ : ∃ g, f = g + 1 := ⟨f - 1, by omega⟩
    obtain ⟨v, I1, e1, k1, f1, hv⟩ := r_quiet (n := n) (c := c) (W := W) (p := p) (rv := -(k : Int)) hw (by omega) h
    have e0 : shN (fun rv => qB T (T 0) rv) (d + 1) (k : Int) = if qB T (T 0) (-(k : Int)) = true then -(k : Int) else if qB T (T 0) (k : Int) = true then (k : Int) else shN (fun rv => qB T (T 0) rv) d ((k : Int) + 1) := rfl
    have pre : ∀ {R : Option (mS ⊕ (Int × mS))}, (if v = 0 then
        (tgO (st true n c I1 W p) 1170 8).bind fun _ =>
        (D_X9_isQuietBy 1170 (k : Int) (st true n c I1 W p)).bind fun r2 =>
        if r2.1 = 0 then
          (D_X9_shifted_7 f) 1170 ((k + 1 : Nat) : Int) r2.2
        else
          some (Sum.inr ((k : Int), r2.2))
      else
        some (Sum.inr (-(k : Int), st true n c I1 W p))) = R → D_X9_shifted_7 (f + 1) 1170 (k : Int) (st true n c I W p) = R := by
      intro R hR
      show (if (500 : Int) < (k : Int) then _ else _) = _
      rw [if_neg (by omega), mw_of (x := -(k : Int)) (by omega) (by omega)]
      refine bdk z9T (bdk e1 ?_)
      rw [mw_n (by omega)]
      exact hR
    rcases hv with ⟨v1, hq⟩ | ⟨v1, hq⟩
    · refine ⟨I1, Sum.inr (-(k : Int), st true n c I1 W p), pre (by rw [if_neg (by omega)]), Or.inr ?_, k1, f1⟩
      rw [e0, if_pos (qB1 hq)]
    · rw [e0, qB0 hq, if_neg (by decide)]
      obtain ⟨v2, I2, e2, k2, f2, hv2⟩ := r_quiet (n := n) (c := c) (W := W) (p := p) (rv := (k : Int)) hw (by omega) k1
      rcases hv2 with ⟨v3, hq2⟩ | ⟨v3, hq2⟩
      · refine ⟨I2, Sum.inr ((k : Int), st true n c I2 W p), pre ?_, Or.inr ?_, k2, Fr.trans' f1 f2⟩
        · rw [if_pos v1]
          refine bdk z9T (bdk e2 ?_)
          show (if v2 = 0 then _ else _) = _
          rw [if_neg (by omega)]
        · rw [if_pos (qB1 hq2)]
      · obtain ⟨I3, R, e3, r3, k3, f3⟩ := ih (k + 1) f c I2 W p (by omega) (by omega) k2
        refine ⟨I3, R, pre ?_, ?_, k3, Fr.trans' f1 (Fr.trans' f2 f3)⟩
        · rw [if_pos v1]
          refine bdk z9T (bdk e2 ?_)
          show (if v2 = 0 then _ else _) = _
          rw [if_pos v3]
          exact e3
        · rw [qB0 hq2, if_neg (by decide)]
          exact r3
theorem a_shifted : Agree n (p8 (D_X8_shifted 32)) (D_X9_shifted 1170) (fun _ => 0) s := by
  refine ag_v (x := shN (fun rv => qB (sT s) (sT s 0) rv) 501 0) (s' := s) (fun c I W p h => ?_) (q9v fun c I W p h => ?_)
  · obtain ⟨W1, e1, h1, i1, f1⟩ := q_open (g := true) (n := n) (c := c) h
    obtain ⟨I2, W2, e2, h2, i2, -, k2, -⟩ := q_run (g := true) (n := n) (c := c) (sk := -1) (u := 1) h1 f1 (Or.inr rfl)
    by_cases q : I2 221 10 = -2
    · obtain ⟨I3, W3, R, e3, r3, h3, i3⟩ := x8_sh32 (n := n) 501 0 mFU c I2 W2 p rfl (by decide) h2
      refine ⟨c, I3, W3, p, ?_, h3, i1.t (i2.t i3), cn0⟩
      refine bdk (x := (shN (fun rv => qB (sT s) (sT s 0) rv) 501 0, st true n c I3 W3 p)) ?_ rfl
      unfold D_X8_shifted
      refine bdk z8R10 (bdk (n0T nb221) (bdk e1 (bdk z8R10 (bdk (n0T nb221) (bdk e2 (bdk z8R10 (bdk (n0T nb221) (bdk q_clash ?_))))))))
      rw [if_pos q]
      show (if (0 : Int) = 0 then _ else _) = _
      rw [if_pos rfl]
      refine bdk e3 ?_
      rcases r3 with ⟨rfl, r4⟩ | rfl
      · have r5 : shN (fun rv => qB (sT s) (sT s 0) rv) 501 0 = -9999 := r4
        rw [r5]
      · rfl
    · have none : ∀ rv, qB (sT s) (sT s 0) rv = false := fun rv => qB0 (fun w => clash_mono (T := sT s) (skip := -1) (F := fun t y => firstS (sT s) (sT s 0) rv t y) (F' := fun _ _ => true) h.w (fun _ _ _ _ _ => rfl) (fun z => q (k2.2 z)) w)
      refine ⟨c, I2, W2, p, ?_, h2, i1.t i2, cn0⟩
      refine bdk (x := (shN (fun rv => qB (sT s) (sT s 0) rv) 501 0, st true n c I2 W2 p)) ?_ rfl
      unfold D_X8_shifted
      refine bdk z8R10 (bdk (n0T nb221) (bdk e1 (bdk z8R10 (bdk (n0T nb221) (bdk e2 (bdk z8R10 (bdk (n0T nb221) (bdk q_clash ?_))))))))
      rw [if_neg q]
      show (if (1 : Int) = 0 then _ else _) = _
      rw [if_neg (by decide), shN_none none]
  · obtain ⟨I1, R, e1, r1, h1, f1⟩ := x9_sh7 (n := n) h.w 501 0 mFU c (zJ I) W p rfl (by decide) (RX_zJ h)
    refine ⟨I1, ?_, AskX_R h1 (Fr.trans' PX_zJ f1)⟩
    unfold D_X9_shifted
    refine bdk z9Z (bdk e1 ?_)
    rcases r1 with ⟨rfl, r4⟩ | rfl
    · have r5 : shN (fun rv => qB (sT s) (sT s 0) rv) 501 0 = -9999 := r4
      rw [r5]
    · rfl
end GO
