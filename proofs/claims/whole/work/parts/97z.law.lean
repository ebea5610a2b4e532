/-! THE PURE PART: the law's loop (written by a program: wip/whole/gen_law.py) -/
/-- a call of the law's that may be refused -/
def wr (cm : Nat → Int) (D : mS → Option ((Int ⊕ Nat) × mS)) (σ : mS) : Option (Int × mS) :=
  (D σ).bind fun r => match r with
  | (Sum.inl v, s4) => (sL s4 1243 0 (mi2l v)).bind fun s5 => some (0, s5)
  | (Sum.inr e, s4) => if cm e ≠ 0 then some (cm e, s4) else none
theorem h1243 : HC true 1243 = (52, 1) := by decide +kernel
section LW
variable {n : Nat} {xs : Nat → Int32} {s : Sp} {c : Nat × Nat × Nat × Nat} {I : Nat → Nat → Int} {W : Nat → Nat → BitVec 64} {p : Nat → Nat} {cm : Nat → Int}
theorem lw_call {D8 : mS → Option ((Int ⊕ Nat) × mS)} {D9 : mS → Option (Int × mS)} (hA : Both n xs D8 D9 cm c I W p) :
    ∃ s' c1 I1 W2 p1 k v I2, wr cm D8 (st true n c I W p) = some (k, st true n c1 I1 W2 p1) ∧ (∀ j, I1 1 j = I 1 j) ∧ cn c c1 ∧ D9 (st true n c1 I1 W2 p1) = some (v, st true n c1 I2 W2 p1) ∧ Inv xs s' I2 W2 p1 ∧ I2 1170 0 = k ∧ (k = 0 → W2 1243 0 = mi2l v) := by
  obtain ⟨c1, I1, W1, p1, o, e8, hk, hc, rest⟩ := hA
  cases o with
  | inl x =>
    obtain ⟨s', v, I2, e9, hI, hov⟩ := rest (u2 W1 1243 0 (mi2l x)) (fun b hb => by funext j; exact u2_ne _ _ (by omega))
    rcases hov with ⟨q1, q2⟩ | ⟨e, q1, -, -⟩
    · cases q1
      refine ⟨s', c1, I1, _, p1, 0, x, I2, ?_, hk, hc, e9, hI, q2, fun _ => by rw [u2_eq]⟩
      unfold wr
      exact bdk e8 (bdk (s_sL h1243 (by decide) (by decide)) rfl)
    · cases q1
  | inr e =>
    obtain ⟨s', v, I2, e9, hI, hov⟩ := rest W1 (fun b _ => rfl)
    rcases hov with ⟨q1, q2⟩ | ⟨e', q1, q2, q3⟩
    · cases q1
    · cases q1
      refine ⟨s', c1, I1, W1, p1, cm e, v, I2, ?_, hk, hc, e9, hI, q2, fun z => absurd z q3⟩
      unfold wr
      refine bdk e8 ?_
      show (if cm e ≠ 0 then some (cm e, st true n c1 I1 W1 p1) else none) = _
      rw [if_pos q3]
theorem lw_callp {D8 : mS → Option (Int × mS)} {D9 : mS → Option (Int × mS)} (hA : Agree n (p8 D8) D9 (fun _ => 0) s) (h : Inv xs s I W p) :
    ∃ s' c1 I1 W1 p1 v I2, D8 (st true n c I W p) = some (v, st true n c1 I1 W1 p1) ∧ (∀ j, I1 1 j = I 1 j) ∧ cn c c1 ∧ D9 (st true n c1 I1 W1 p1) = some (v, st true n c1 I2 W1 p1) ∧ Inv xs s' I2 W1 p1 := by
  obtain ⟨c1, I1, W1, p1, o, e8, hk, hc, rest⟩ := both_go (n := n) (c := c) hA h
  obtain ⟨s', v, I2, e9, hI, hov⟩ := rest W1 (fun b _ => rfl)
  rcases hov with ⟨q1, q2⟩ | ⟨e', q1, q2, q3⟩
  · obtain ⟨r, r1, r2⟩ := bd e8
    have r3 := Option.some.inj r2
    rw [q1] at r3
    have r4 : r.1 = v := Sum.inl.inj (congrArg Prod.fst r3)
    have r5 : r.2 = st true n c1 I1 W1 p1 := congrArg Prod.snd r3
    refine ⟨s', c1, I1, W1, p1, v, I2, ?_, hk, hc, e9, hI⟩
    rw [r1, ← r4, ← r5]
  · exact absurd rfl q3
theorem lw_callo {D8 : mS → Option Int} {D9 : mS → Option (Int × mS)} (hA : Agree n (o8 D8) D9 (fun _ => 0) s) (h : Inv xs s I W p) :
    ∃ s' c1 W1 p1 v I2, D8 (st true n c I W p) = some v ∧ cn c c1 ∧ D9 (st true n c I W p) = some (v, st true n c1 I2 W1 p1) ∧ Inv xs s' I2 W1 p1 := by
  obtain ⟨c1, I1, W1, p1, o, e8, hk, hc, rest⟩ := both_go (n := n) (c := c) hA h
  obtain ⟨s', v, I2, e9, hI, hov⟩ := rest W1 (fun b _ => rfl)
  rcases hov with ⟨q1, q2⟩ | ⟨e', q1, q2, q3⟩
  · obtain ⟨r, r1, r2⟩ := bd e8
    have r3 := Option.some.inj r2
    rw [q1] at r3
    have r4 : r = v := Sum.inl.inj (congrArg Prod.fst r3)
    have r5 : st true n c I W p = st true n c1 I1 W1 p1 := congrArg Prod.snd r3
    refine ⟨s', c1, W1, p1, v, I2, by rw [r1, r4], hc, ?_, hI⟩
    rw [r5]
    exact e9
  · exact absurd rfl q3
theorem lw_tail {α : Type} {K N1 N2 : mS → Option α} {k v : Int} (h0 : I 1170 0 = k) (hw : k = 0 → W 1243 0 = mi2l v) :
    ((tgO (st true n c I W p) 1170 8).bind fun _ => (D_X9_thrown 1170 (st true n c I W p)).bind fun r20 => if r20 = k then (if k ≠ 0 then K (st true n c I W p) else (lL (st true n c I W p) 1243 0).bind fun v21 => if mlcmp v21 (mi2l v) = 0 then K (st true n c I W p) else N1 (st true n c I W p)) else N2 (st true n c I W p)) = K (st true n c I W p) := by
  refine bdk z9T (bdk (x := k) (bdk z9I (by rw [h0])) ?_)
  rw [if_pos rfl]
  by_cases q : k = 0
  · rw [if_neg (fun z => z q)]
    refine bdk (s_lL h1243 (by decide) (by decide)) ?_
    have e : W 1243 (0 : Int).toNat = mi2l v := hw q
    rw [e, if_pos (mlcmp_0.2 rfl)]
  · rw [if_pos q]
theorem rd {i j : Nat} (h : i + j < n) (hn : n ≤ 3072) (hj : j < 6) : lI (st true n c I W p) 1 (mw ((i : Int) + (j : Int))) = some (I 1 (i + j)) := by
  rw [mw_of (by omega) (by omega)]
  rw [s_lIx (by omega) (by omega), show ((i : Int) + (j : Int)).toNat = i + j by omega]
end LW
section LL
variable {σ : mS}
theorem L_text {a : Int} (h : tgO σ 32 7 = some ()) : D_L_text 32 a 1243 σ = wr cmA (D_X8_text 32 a) σ := by
  unfold D_L_text wr
  rw [h]
  show (D_X8_text 32 a σ).bind _ = _
  congr 1
  funext r
  obtain ⟨o, t⟩ := r
  cases o with
  | inl x => rfl
  | inr z =>
    by_cases q1 : z = 1
    · subst q1; rfl
    have k : cmA z = 0 := by unfold cmA; rw [if_neg q1]
    show (if z = 1 then some ((1 : Int), t) else none) = if cmA z ≠ 0 then some (cmA z, t) else none
    rw [if_neg q1, k, if_neg (by decide)]
theorem L_set {a b : Int} (h : tgO σ 32 7 = some ()) : D_L_set 32 a b 1243 σ = wr cmA (D_X8_set 32 a b) σ := by
  unfold D_L_set wr
  rw [h]
  show (D_X8_set 32 a b σ).bind _ = _
  congr 1
  funext r
  obtain ⟨o, t⟩ := r
  cases o with
  | inl x => rfl
  | inr z =>
    by_cases q1 : z = 1
    · subst q1; rfl
    have k : cmA z = 0 := by unfold cmA; rw [if_neg q1]
    show (if z = 1 then some ((1 : Int), t) else none) = if cmA z ≠ 0 then some (cmA z, t) else none
    rw [if_neg q1, k, if_neg (by decide)]
theorem L_redate {a b d : Int} (h : tgO σ 32 7 = some ()) : D_L_redate 32 a b d 1243 σ = wr cmB (D_X8_redate 32 a b d) σ := by
  unfold D_L_redate wr
  rw [h]
  show (D_X8_redate 32 a b d σ).bind _ = _
  congr 1
  funext r
  obtain ⟨o, t⟩ := r
  cases o with
  | inl x => rfl
  | inr z =>
    by_cases q0 : z = 0
    · subst q0; rfl
    by_cases q1 : z = 1
    · subst q1; rfl
    have k : cmB z = 0 := by unfold cmB; rw [if_neg q0, if_neg q1]
    show (if z = 0 then some ((1 : Int), t) else if z = 1 then some ((2 : Int), t) else none) = if cmB z ≠ 0 then some (cmB z, t) else none
    rw [if_neg q0, if_neg q1, k, if_neg (by decide)]
theorem L_before {a b d e : Int} (h : tgO σ 32 7 = some ()) : D_L_before 32 a b d e 1243 σ = wr cmC (D_X8_before 32 a b d e) σ := by
  unfold D_L_before wr
  rw [h]
  show (D_X8_before 32 a b d e σ).bind _ = _
  congr 1
  funext r
  obtain ⟨o, t⟩ := r
  cases o with
  | inl x => rfl
  | inr z =>
    by_cases q0 : z = 0
    · subst q0; rfl
    by_cases q1 : z = 1
    · subst q1; rfl
    by_cases q2 : z = 2
    · subst q2; rfl
    have k : cmC z = 0 := by unfold cmC; rw [if_neg q0, if_neg q1, if_neg q2]
    show (if z = 0 then some ((1 : Int), t) else if z = 1 then some ((2 : Int), t) else if z = 2 then some ((3 : Int), t) else none) = if cmC z ≠ 0 then some (cmC z, t) else none
    rw [if_neg q0, if_neg q1, if_neg q2, k, if_neg (by decide)]
theorem L_bounds {a b d : Int} (h : tgO σ 32 7 = some ()) : D_L_bounds 32 a b d 1243 σ = wr cmC (D_X8_bounds 32 a b d) σ := by
  unfold D_L_bounds wr
  rw [h]
  show (D_X8_bounds 32 a b d σ).bind _ = _
  congr 1
  funext r
  obtain ⟨o, t⟩ := r
  cases o with
  | inl x => rfl
  | inr z =>
    by_cases q0 : z = 0
    · subst q0; rfl
    by_cases q1 : z = 1
    · subst q1; rfl
    by_cases q2 : z = 2
    · subst q2; rfl
    have k : cmC z = 0 := by unfold cmC; rw [if_neg q0, if_neg q1, if_neg q2]
    show (if z = 0 then some ((1 : Int), t) else if z = 1 then some ((2 : Int), t) else if z = 2 then some ((3 : Int), t) else none) = if cmC z ≠ 0 then some (cmC z, t) else none
    rw [if_neg q0, if_neg q1, if_neg q2, k, if_neg (by decide)]
theorem L_drop {a : Int} (h : tgO σ 32 7 = some ()) : D_L_drop 32 a 1243 σ = wr cmN (D_X8_drop 32 a) σ := by
  unfold D_L_drop wr
  rw [h]
  show (D_X8_drop 32 a σ).bind _ = _
  congr 1
  funext r
  obtain ⟨o, t⟩ := r
  cases o with
  | inl x => rfl
  | inr z =>
    by_cases q0 : z = 0
    · subst q0; rfl
    have k : cmN z = 0 := by unfold cmN; rw [if_neg q0]
    show (if z = 0 then some ((1 : Int), t) else none) = if cmN z ≠ 0 then some (cmN z, t) else none
    rw [if_neg q0, k, if_neg (by decide)]
theorem L_told {a : Int} (h : tgO σ 32 7 = some ()) : D_L_told 32 a 1243 σ = wr cmA (D_X8_told 32 a) σ := by
  unfold D_L_told wr
  rw [h]
  show (D_X8_told 32 a σ).bind _ = _
  congr 1
  funext r
  obtain ⟨o, t⟩ := r
  cases o with
  | inl x => rfl
  | inr z =>
    by_cases q1 : z = 1
    · subst q1; rfl
    have k : cmA z = 0 := by unfold cmA; rw [if_neg q1]
    show (if z = 1 then some ((1 : Int), t) else none) = if cmA z ≠ 0 then some (cmA z, t) else none
    rw [if_neg q1, k, if_neg (by decide)]
theorem L_age {a : Int} (h : tgO σ 32 7 = some ()) : D_L_age 32 a 1243 σ = wr cmN (D_X8_age 32 a) σ := by
  unfold D_L_age wr
  rw [h]
  show (D_X8_age 32 a σ).bind _ = _
  congr 1
  funext r
  obtain ⟨o, t⟩ := r
  cases o with
  | inl x => rfl
  | inr z =>
    by_cases q0 : z = 0
    · subst q0; rfl
    have k : cmN z = 0 := by unfold cmN; rw [if_neg q0]
    show (if z = 0 then some ((1 : Int), t) else none) = if cmN z ≠ 0 then some (cmN z, t) else none
    rw [if_neg q0, k, if_neg (by decide)]
theorem L_years {a b : Int} (h : tgO σ 32 7 = some ()) : D_L_years 32 a b 1243 σ = wr cmA (D_X8_years 32 a b) σ := by
  unfold D_L_years wr
  rw [h]
  show (D_X8_years 32 a b σ).bind _ = _
  congr 1
  funext r
  obtain ⟨o, t⟩ := r
  cases o with
  | inl x => rfl
  | inr z =>
    by_cases q1 : z = 1
    · subst q1; rfl
    have k : cmA z = 0 := by unfold cmA; rw [if_neg q1]
    show (if z = 1 then some ((1 : Int), t) else none) = if cmA z ≠ 0 then some (cmA z, t) else none
    rw [if_neg q1, k, if_neg (by decide)]
theorem L_knot {a b : Int} (h : tgO σ 32 7 = some ()) : D_L_knot 32 a b 1243 σ = wr cmB (D_X8_knot 32 a b) σ := by
  unfold D_L_knot wr
  rw [h]
  show (D_X8_knot 32 a b σ).bind _ = _
  congr 1
  funext r
  obtain ⟨o, t⟩ := r
  cases o with
  | inl x => rfl
  | inr z =>
    by_cases q0 : z = 0
    · subst q0; rfl
    by_cases q1 : z = 1
    · subst q1; rfl
    have k : cmB z = 0 := by unfold cmB; rw [if_neg q0, if_neg q1]
    show (if z = 0 then some ((1 : Int), t) else if z = 1 then some ((2 : Int), t) else none) = if cmB z ≠ 0 then some (cmB z, t) else none
    rw [if_neg q0, if_neg q1, k, if_neg (by decide)]
theorem L_sample {a b : Int} (h : tgO σ 32 7 = some ()) : D_L_sample 32 a b 1243 σ = wr cmB (D_X8_sample 32 a b) σ := by
  unfold D_L_sample wr
  rw [h]
  show (D_X8_sample 32 a b σ).bind _ = _
  congr 1
  funext r
  obtain ⟨o, t⟩ := r
  cases o with
  | inl x => rfl
  | inr z =>
    by_cases q0 : z = 0
    · subst q0; rfl
    by_cases q1 : z = 1
    · subst q1; rfl
    have k : cmB z = 0 := by unfold cmB; rw [if_neg q0, if_neg q1]
    show (if z = 0 then some ((1 : Int), t) else if z = 1 then some ((2 : Int), t) else none) = if cmB z ≠ 0 then some (cmB z, t) else none
    rw [if_neg q0, if_neg q1, k, if_neg (by decide)]
theorem L_interval {a b d : Int} (h : tgO σ 32 7 = some ()) : D_L_interval 32 a b d 1243 σ = wr cmB (D_X8_interval 32 a b d) σ := by
  unfold D_L_interval wr
  rw [h]
  show (D_X8_interval 32 a b d σ).bind _ = _
  congr 1
  funext r
  obtain ⟨o, t⟩ := r
  cases o with
  | inl x => rfl
  | inr z =>
    by_cases q0 : z = 0
    · subst q0; rfl
    by_cases q1 : z = 1
    · subst q1; rfl
    have k : cmB z = 0 := by unfold cmB; rw [if_neg q0, if_neg q1]
    show (if z = 0 then some ((1 : Int), t) else if z = 1 then some ((2 : Int), t) else none) = if cmB z ≠ 0 then some (cmB z, t) else none
    rw [if_neg q0, if_neg q1, k, if_neg (by decide)]
theorem L_misfit {a b : Int} (h : tgO σ 32 7 = some ()) : D_L_misfit 32 a b 1243 σ = wr cmN (D_X8_misfit 32 a b) σ := by
  unfold D_L_misfit wr
  rw [h]
  show (D_X8_misfit 32 a b σ).bind _ = _
  congr 1
  funext r
  obtain ⟨o, t⟩ := r
  cases o with
  | inl x => rfl
  | inr z =>
    by_cases q0 : z = 0
    · subst q0; rfl
    have k : cmN z = 0 := by unfold cmN; rw [if_neg q0]
    show (if z = 0 then some ((1 : Int), t) else none) = if cmN z ≠ 0 then some (cmN z, t) else none
    rw [if_neg q0, k, if_neg (by decide)]
theorem L_place {a b : Int} (h : tgO σ 32 7 = some ()) : D_L_place 32 a b 1243 σ = wr cmN (D_X8_place 32 a b) σ := by
  unfold D_L_place wr
  rw [h]
  show (D_X8_place 32 a b σ).bind _ = _
  congr 1
  funext r
  obtain ⟨o, t⟩ := r
  cases o with
  | inl x => rfl
  | inr z =>
    by_cases q0 : z = 0
    · subst q0; rfl
    have k : cmN z = 0 := by unfold cmN; rw [if_neg q0]
    show (if z = 0 then some ((1 : Int), t) else none) = if cmN z ≠ 0 then some (cmN z, t) else none
    rw [if_neg q0, k, if_neg (by decide)]
theorem L_rule {a b : Int} (h : tgO σ 32 7 = some ()) : D_L_rule 32 a b 1243 σ = wr cmB (D_X8_rule 32 a b) σ := by
  unfold D_L_rule wr
  rw [h]
  show (D_X8_rule 32 a b σ).bind _ = _
  congr 1
  funext r
  obtain ⟨o, t⟩ := r
  cases o with
  | inl x => rfl
  | inr z =>
    by_cases q0 : z = 0
    · subst q0; rfl
    by_cases q1 : z = 1
    · subst q1; rfl
    have k : cmB z = 0 := by unfold cmB; rw [if_neg q0, if_neg q1]
    show (if z = 0 then some ((1 : Int), t) else if z = 1 then some ((2 : Int), t) else none) = if cmB z ≠ 0 then some (cmB z, t) else none
    rw [if_neg q0, if_neg q1, k, if_neg (by decide)]
theorem L_clash {a : Int} (h : tgO σ 32 7 = some ()) : D_L_clash 32 a 1243 σ = wr cmA (D_X8_clash 32 a) σ := by
  unfold D_L_clash wr
  rw [h]
  show (D_X8_clash 32 a σ).bind _ = _
  congr 1
  funext r
  obtain ⟨o, t⟩ := r
  cases o with
  | inl x => rfl
  | inr z =>
    by_cases q1 : z = 1
    · subst q1; rfl
    have k : cmA z = 0 := by unfold cmA; rw [if_neg q1]
    show (if z = 1 then some ((1 : Int), t) else none) = if cmA z ≠ 0 then some (cmA z, t) else none
    rw [if_neg q1, k, if_neg (by decide)]
theorem L_without {a b : Int} (h : tgO σ 32 7 = some ()) : D_L_without 32 a b 1243 σ = wr cmB (D_X8_without 32 a b) σ := by
  unfold D_L_without wr
  rw [h]
  show (D_X8_without 32 a b σ).bind _ = _
  congr 1
  funext r
  obtain ⟨o, t⟩ := r
  cases o with
  | inl x => rfl
  | inr z =>
    by_cases q0 : z = 0
    · subst q0; rfl
    by_cases q1 : z = 1
    · subst q1; rfl
    have k : cmB z = 0 := by unfold cmB; rw [if_neg q0, if_neg q1]
    show (if z = 0 then some ((1 : Int), t) else if z = 1 then some ((2 : Int), t) else none) = if cmB z ≠ 0 then some (cmB z, t) else none
    rw [if_neg q0, if_neg q1, k, if_neg (by decide)]
theorem L_pinned {a b d : Int} (h : tgO σ 32 7 = some ()) : D_L_pinned 32 a b d 1243 σ = wr cmB (D_X8_pinned 32 a b d) σ := by
  unfold D_L_pinned wr
  rw [h]
  show (D_X8_pinned 32 a b d σ).bind _ = _
  congr 1
  funext r
  obtain ⟨o, t⟩ := r
  cases o with
  | inl x => rfl
  | inr z =>
    by_cases q0 : z = 0
    · subst q0; rfl
    by_cases q1 : z = 1
    · subst q1; rfl
    have k : cmB z = 0 := by unfold cmB; rw [if_neg q0, if_neg q1]
    show (if z = 0 then some ((1 : Int), t) else if z = 1 then some ((2 : Int), t) else none) = if cmB z ≠ 0 then some (cmB z, t) else none
    rw [if_neg q0, if_neg q1, k, if_neg (by decide)]
theorem L_doomed {a : Int} (h : tgO σ 32 7 = some ()) : D_L_doomed 32 a 1243 σ = wr cmN (D_X8_doomed 32 a) σ := by
  unfold D_L_doomed wr
  rw [h]
  show (D_X8_doomed 32 a σ).bind _ = _
  congr 1
  funext r
  obtain ⟨o, t⟩ := r
  cases o with
  | inl x => rfl
  | inr z =>
    by_cases q0 : z = 0
    · subst q0; rfl
    have k : cmN z = 0 := by unfold cmN; rw [if_neg q0]
    show (if z = 0 then some ((1 : Int), t) else none) = if cmN z ≠ 0 then some (cmN z, t) else none
    rw [if_neg q0, k, if_neg (by decide)]
theorem L_phase {a b : Int} (h : tgO σ 32 7 = some ()) : D_L_phase 32 a b 1243 σ = wr cmB (D_X8_phase 32 a b) σ := by
  unfold D_L_phase wr
  rw [h]
  show (D_X8_phase 32 a b σ).bind _ = _
  congr 1
  funext r
  obtain ⟨o, t⟩ := r
  cases o with
  | inl x => rfl
  | inr z =>
    by_cases q0 : z = 0
    · subst q0; rfl
    by_cases q1 : z = 1
    · subst q1; rfl
    have k : cmB z = 0 := by unfold cmB; rw [if_neg q0, if_neg q1]
    show (if z = 0 then some ((1 : Int), t) else if z = 1 then some ((2 : Int), t) else none) = if cmB z ≠ 0 then some (cmB z, t) else none
    rw [if_neg q0, if_neg q1, k, if_neg (by decide)]
theorem L_member {a b : Int} (h : tgO σ 32 7 = some ()) : D_L_member 32 a b 1243 σ = wr cmN (D_X8_member 32 a b) σ := by
  unfold D_L_member wr
  rw [h]
  show (D_X8_member 32 a b σ).bind _ = _
  congr 1
  funext r
  obtain ⟨o, t⟩ := r
  cases o with
  | inl x => rfl
  | inr z =>
    by_cases q0 : z = 0
    · subst q0; rfl
    have k : cmN z = 0 := by unfold cmN; rw [if_neg q0]
    show (if z = 0 then some ((1 : Int), t) else none) = if cmN z ≠ 0 then some (cmN z, t) else none
    rw [if_neg q0, k, if_neg (by decide)]
theorem L_trial {a : Int} (h : tgO σ 32 7 = some ()) : D_L_trial 32 a 1243 σ = wr cmA (D_X8_trial 32 a) σ := by
  unfold D_L_trial wr
  rw [h]
  show (D_X8_trial 32 a σ).bind _ = _
  congr 1
  funext r
  obtain ⟨o, t⟩ := r
  cases o with
  | inl x => rfl
  | inr z =>
    by_cases q1 : z = 1
    · subst q1; rfl
    have k : cmA z = 0 := by unfold cmA; rw [if_neg q1]
    show (if z = 1 then some ((1 : Int), t) else none) = if cmA z ≠ 0 then some (cmA z, t) else none
    rw [if_neg q1, k, if_neg (by decide)]
theorem L_tried {a : Int} (h : tgO σ 32 7 = some ()) : D_L_tried 32 a 1243 σ = wr cmN (D_X8_tried 32 a) σ := by
  unfold D_L_tried wr
  rw [h]
  show (D_X8_tried 32 a σ).bind _ = _
  congr 1
  funext r
  obtain ⟨o, t⟩ := r
  cases o with
  | inl x => rfl
  | inr z =>
    by_cases q0 : z = 0
    · subst q0; rfl
    have k : cmN z = 0 := by unfold cmN; rw [if_neg q0]
    show (if z = 0 then some ((1 : Int), t) else none) = if cmN z ≠ 0 then some (cmN z, t) else none
    rw [if_neg q0, k, if_neg (by decide)]
end LL
section LS
variable {n : Nat} {xs : Nat → Int32} {s : Sp} {c : Nat × Nat × Nat × Nat} {I : Nat → Nat → Int} {W : Nat → Nat → BitVec 64} {p : Nat → Nat}
theorem B_text {i : Nat} (h : Inv xs s I W p) (hn : n ≤ 3072) (hi : i + 6 ≤ n) {K N1 N2 : mS → Option (mS ⊕ (Int × mS))} : ∃ s' c' I' W' p', Inv xs s' I' W' p' ∧ cn c c' ∧ ((lI (st true n c I W p) 1 (mw ((i : Int) + 1))).bind fun v1 => (D_L_text 32 v1 1243 (st true n c I W p)).bind fun r => (lI r.2 1 (mw ((i : Int) + 1))).bind fun w1 => (tgO r.2 1170 8).bind fun _ => (D_X9_text 1170 w1 r.2).bind fun r9 => (tgO r9.2 1170 8).bind fun _ => (D_X9_thrown 1170 r9.2).bind fun t => if t = r.1 then (if r.1 ≠ 0 then K r9.2 else (lL r9.2 1243 0).bind fun z => if mlcmp z (mi2l r9.1) = 0 then K r9.2 else N1 r9.2) else N2 r9.2) = K (st true n c' I' W' p') := by
  obtain ⟨s', c1, I1, W2, p1, k, v, I2, e8, hk, hc, e9, hI, h0, hw⟩ := lw_call (n := n) (c := c) (text_go (n := n) (c := c) (a := I 1 (i + 1)) h)
  refine ⟨s', c1, I2, W2, p1, hI, hc, ?_⟩
  refine bdk (rd (j := 1) (by omega) hn (by decide)) ?_
  rw [L_text z8T]
  refine bdk e8 ?_
  refine bdk (rd (j := 1) (by omega) hn (by decide)) ?_
  rw [hk]
  exact bdk z9T (bdk e9 (lw_tail h0 hw))
theorem B_set {i : Nat} (h : Inv xs s I W p) (hn : n ≤ 3072) (hi : i + 6 ≤ n) {K N1 N2 : mS → Option (mS ⊕ (Int × mS))} : ∃ s' c' I' W' p', Inv xs s' I' W' p' ∧ cn c c' ∧ ((lI (st true n c I W p) 1 (mw ((i : Int) + 1))).bind fun v1 => (lI (st true n c I W p) 1 (mw ((i : Int) + 2))).bind fun v2 => (D_L_set 32 v1 v2 1243 (st true n c I W p)).bind fun r => (lI r.2 1 (mw ((i : Int) + 1))).bind fun w1 => (lI r.2 1 (mw ((i : Int) + 2))).bind fun w2 => (tgO r.2 1170 8).bind fun _ => (D_X9_set 1170 w1 w2 r.2).bind fun r9 => (tgO r9.2 1170 8).bind fun _ => (D_X9_thrown 1170 r9.2).bind fun t => if t = r.1 then (if r.1 ≠ 0 then K r9.2 else (lL r9.2 1243 0).bind fun z => if mlcmp z (mi2l r9.1) = 0 then K r9.2 else N1 r9.2) else N2 r9.2) = K (st true n c' I' W' p') := by
  obtain ⟨s', c1, I1, W2, p1, k, v, I2, e8, hk, hc, e9, hI, h0, hw⟩ := lw_call (n := n) (c := c) (D8 := D_X8_set 32 (I 1 (i + 1)) (I 1 (i + 2))) (D9 := D_X9_set 1170 (I 1 (i + 1)) (I 1 (i + 2))) (cm := cmA) (both_go a_set h)
  refine ⟨s', c1, I2, W2, p1, hI, hc, ?_⟩
  refine bdk (rd (j := 1) (by omega) hn (by decide)) (bdk (rd (j := 2) (by omega) hn (by decide)) ?_)
  rw [L_set z8T]
  refine bdk e8 ?_
  refine bdk (rd (j := 1) (by omega) hn (by decide)) (bdk (rd (j := 2) (by omega) hn (by decide)) ?_)
  rw [hk, hk]
  exact bdk z9T (bdk e9 (lw_tail h0 hw))
theorem B_redate {i : Nat} (h : Inv xs s I W p) (hn : n ≤ 3072) (hi : i + 6 ≤ n) {K N1 N2 : mS → Option (mS ⊕ (Int × mS))} : ∃ s' c' I' W' p', Inv xs s' I' W' p' ∧ cn c c' ∧ ((lI (st true n c I W p) 1 (mw ((i : Int) + 1))).bind fun v1 => (lI (st true n c I W p) 1 (mw ((i : Int) + 2))).bind fun v2 => (lI (st true n c I W p) 1 (mw ((i : Int) + 3))).bind fun v3 => (D_L_redate 32 v1 v2 v3 1243 (st true n c I W p)).bind fun r => (lI r.2 1 (mw ((i : Int) + 1))).bind fun w1 => (lI r.2 1 (mw ((i : Int) + 2))).bind fun w2 => (lI r.2 1 (mw ((i : Int) + 3))).bind fun w3 => (tgO r.2 1170 8).bind fun _ => (D_X9_redate 1170 w1 w2 w3 r.2).bind fun r9 => (tgO r9.2 1170 8).bind fun _ => (D_X9_thrown 1170 r9.2).bind fun t => if t = r.1 then (if r.1 ≠ 0 then K r9.2 else (lL r9.2 1243 0).bind fun z => if mlcmp z (mi2l r9.1) = 0 then K r9.2 else N1 r9.2) else N2 r9.2) = K (st true n c' I' W' p') := by
  obtain ⟨s', c1, I1, W2, p1, k, v, I2, e8, hk, hc, e9, hI, h0, hw⟩ := lw_call (n := n) (c := c) (D8 := D_X8_redate 32 (I 1 (i + 1)) (I 1 (i + 2)) (I 1 (i + 3))) (D9 := D_X9_redate 1170 (I 1 (i + 1)) (I 1 (i + 2)) (I 1 (i + 3))) (cm := cmB) (both_go a_redate h)
  refine ⟨s', c1, I2, W2, p1, hI, hc, ?_⟩
  refine bdk (rd (j := 1) (by omega) hn (by decide)) (bdk (rd (j := 2) (by omega) hn (by decide)) (bdk (rd (j := 3) (by omega) hn (by decide)) ?_))
  rw [L_redate z8T]
  refine bdk e8 ?_
  refine bdk (rd (j := 1) (by omega) hn (by decide)) (bdk (rd (j := 2) (by omega) hn (by decide)) (bdk (rd (j := 3) (by omega) hn (by decide)) ?_))
  rw [hk, hk, hk]
  exact bdk z9T (bdk e9 (lw_tail h0 hw))
theorem B_before {i : Nat} (h : Inv xs s I W p) (hn : n ≤ 3072) (hi : i + 6 ≤ n) {K N1 N2 : mS → Option (mS ⊕ (Int × mS))} : ∃ s' c' I' W' p', Inv xs s' I' W' p' ∧ cn c c' ∧ ((lI (st true n c I W p) 1 (mw ((i : Int) + 1))).bind fun v1 => (lI (st true n c I W p) 1 (mw ((i : Int) + 2))).bind fun v2 => (lI (st true n c I W p) 1 (mw ((i : Int) + 3))).bind fun v3 => (lI (st true n c I W p) 1 (mw ((i : Int) + 4))).bind fun v4 => (D_L_before 32 v1 v2 v3 v4 1243 (st true n c I W p)).bind fun r => (lI r.2 1 (mw ((i : Int) + 1))).bind fun w1 => (lI r.2 1 (mw ((i : Int) + 2))).bind fun w2 => (lI r.2 1 (mw ((i : Int) + 3))).bind fun w3 => (lI r.2 1 (mw ((i : Int) + 4))).bind fun w4 => (tgO r.2 1170 8).bind fun _ => (D_X9_before 1170 w1 w2 w3 w4 r.2).bind fun r9 => (tgO r9.2 1170 8).bind fun _ => (D_X9_thrown 1170 r9.2).bind fun t => if t = r.1 then (if r.1 ≠ 0 then K r9.2 else (lL r9.2 1243 0).bind fun z => if mlcmp z (mi2l r9.1) = 0 then K r9.2 else N1 r9.2) else N2 r9.2) = K (st true n c' I' W' p') := by
  obtain ⟨s', c1, I1, W2, p1, k, v, I2, e8, hk, hc, e9, hI, h0, hw⟩ := lw_call (n := n) (c := c) (D8 := D_X8_before 32 (I 1 (i + 1)) (I 1 (i + 2)) (I 1 (i + 3)) (I 1 (i + 4))) (D9 := D_X9_before 1170 (I 1 (i + 1)) (I 1 (i + 2)) (I 1 (i + 3)) (I 1 (i + 4))) (cm := cmC) (both_go a_before h)
  refine ⟨s', c1, I2, W2, p1, hI, hc, ?_⟩
  refine bdk (rd (j := 1) (by omega) hn (by decide)) (bdk (rd (j := 2) (by omega) hn (by decide)) (bdk (rd (j := 3) (by omega) hn (by decide)) (bdk (rd (j := 4) (by omega) hn (by decide)) ?_)))
  rw [L_before z8T]
  refine bdk e8 ?_
  refine bdk (rd (j := 1) (by omega) hn (by decide)) (bdk (rd (j := 2) (by omega) hn (by decide)) (bdk (rd (j := 3) (by omega) hn (by decide)) (bdk (rd (j := 4) (by omega) hn (by decide)) ?_)))
  rw [hk, hk, hk, hk]
  exact bdk z9T (bdk e9 (lw_tail h0 hw))
theorem B_bounds {i : Nat} (h : Inv xs s I W p) (hn : n ≤ 3072) (hi : i + 6 ≤ n) {K N1 N2 : mS → Option (mS ⊕ (Int × mS))} : ∃ s' c' I' W' p', Inv xs s' I' W' p' ∧ cn c c' ∧ ((lI (st true n c I W p) 1 (mw ((i : Int) + 1))).bind fun v1 => (lI (st true n c I W p) 1 (mw ((i : Int) + 2))).bind fun v2 => (lI (st true n c I W p) 1 (mw ((i : Int) + 3))).bind fun v3 => (D_L_bounds 32 v1 v2 v3 1243 (st true n c I W p)).bind fun r => (lI r.2 1 (mw ((i : Int) + 1))).bind fun w1 => (lI r.2 1 (mw ((i : Int) + 2))).bind fun w2 => (lI r.2 1 (mw ((i : Int) + 3))).bind fun w3 => (tgO r.2 1170 8).bind fun _ => (D_X9_bounds 1170 w1 w2 w3 r.2).bind fun r9 => (tgO r9.2 1170 8).bind fun _ => (D_X9_thrown 1170 r9.2).bind fun t => if t = r.1 then (if r.1 ≠ 0 then K r9.2 else (lL r9.2 1243 0).bind fun z => if mlcmp z (mi2l r9.1) = 0 then K r9.2 else N1 r9.2) else N2 r9.2) = K (st true n c' I' W' p') := by
  obtain ⟨s', c1, I1, W2, p1, k, v, I2, e8, hk, hc, e9, hI, h0, hw⟩ := lw_call (n := n) (c := c) (D8 := D_X8_bounds 32 (I 1 (i + 1)) (I 1 (i + 2)) (I 1 (i + 3))) (D9 := D_X9_bounds 1170 (I 1 (i + 1)) (I 1 (i + 2)) (I 1 (i + 3))) (cm := cmC) (both_go a_bounds h)
  refine ⟨s', c1, I2, W2, p1, hI, hc, ?_⟩
  refine bdk (rd (j := 1) (by omega) hn (by decide)) (bdk (rd (j := 2) (by omega) hn (by decide)) (bdk (rd (j := 3) (by omega) hn (by decide)) ?_))
  rw [L_bounds z8T]
  refine bdk e8 ?_
  refine bdk (rd (j := 1) (by omega) hn (by decide)) (bdk (rd (j := 2) (by omega) hn (by decide)) (bdk (rd (j := 3) (by omega) hn (by decide)) ?_))
  rw [hk, hk, hk]
  exact bdk z9T (bdk e9 (lw_tail h0 hw))
theorem B_drop {i : Nat} (h : Inv xs s I W p) (hn : n ≤ 3072) (hi : i + 6 ≤ n) {K N1 N2 : mS → Option (mS ⊕ (Int × mS))} : ∃ s' c' I' W' p', Inv xs s' I' W' p' ∧ cn c c' ∧ ((lI (st true n c I W p) 1 (mw ((i : Int) + 1))).bind fun v1 => (D_L_drop 32 v1 1243 (st true n c I W p)).bind fun r => (lI r.2 1 (mw ((i : Int) + 1))).bind fun w1 => (tgO r.2 1170 8).bind fun _ => (D_X9_drop 1170 w1 r.2).bind fun r9 => (tgO r9.2 1170 8).bind fun _ => (D_X9_thrown 1170 r9.2).bind fun t => if t = r.1 then (if r.1 ≠ 0 then K r9.2 else (lL r9.2 1243 0).bind fun z => if mlcmp z (mi2l r9.1) = 0 then K r9.2 else N1 r9.2) else N2 r9.2) = K (st true n c' I' W' p') := by
  obtain ⟨s', c1, I1, W2, p1, k, v, I2, e8, hk, hc, e9, hI, h0, hw⟩ := lw_call (n := n) (c := c) (D8 := D_X8_drop 32 (I 1 (i + 1))) (D9 := D_X9_drop 1170 (I 1 (i + 1))) (cm := cmN) (both_go a_drop h)
  refine ⟨s', c1, I2, W2, p1, hI, hc, ?_⟩
  refine bdk (rd (j := 1) (by omega) hn (by decide)) ?_
  rw [L_drop z8T]
  refine bdk e8 ?_
  refine bdk (rd (j := 1) (by omega) hn (by decide)) ?_
  rw [hk]
  exact bdk z9T (bdk e9 (lw_tail h0 hw))
theorem B_told {i : Nat} (h : Inv xs s I W p) (hn : n ≤ 3072) (hi : i + 6 ≤ n) {K N1 N2 : mS → Option (mS ⊕ (Int × mS))} : ∃ s' c' I' W' p', Inv xs s' I' W' p' ∧ cn c c' ∧ ((lI (st true n c I W p) 1 (mw ((i : Int) + 1))).bind fun v1 => (D_L_told 32 v1 1243 (st true n c I W p)).bind fun r => (lI r.2 1 (mw ((i : Int) + 1))).bind fun w1 => (tgO r.2 1170 8).bind fun _ => (D_X9_told 1170 w1 r.2).bind fun r9 => (tgO r9.2 1170 8).bind fun _ => (D_X9_thrown 1170 r9.2).bind fun t => if t = r.1 then (if r.1 ≠ 0 then K r9.2 else (lL r9.2 1243 0).bind fun z => if mlcmp z (mi2l r9.1) = 0 then K r9.2 else N1 r9.2) else N2 r9.2) = K (st true n c' I' W' p') := by
  obtain ⟨s', c1, I1, W2, p1, k, v, I2, e8, hk, hc, e9, hI, h0, hw⟩ := lw_call (n := n) (c := c) (D8 := D_X8_told 32 (I 1 (i + 1))) (D9 := D_X9_told 1170 (I 1 (i + 1))) (cm := cmA) (both_go a_told h)
  refine ⟨s', c1, I2, W2, p1, hI, hc, ?_⟩
  refine bdk (rd (j := 1) (by omega) hn (by decide)) ?_
  rw [L_told z8T]
  refine bdk e8 ?_
  refine bdk (rd (j := 1) (by omega) hn (by decide)) ?_
  rw [hk]
  exact bdk z9T (bdk e9 (lw_tail h0 hw))
theorem B_age {i : Nat} (h : Inv xs s I W p) (hn : n ≤ 3072) (hi : i + 6 ≤ n) {K N1 N2 : mS → Option (mS ⊕ (Int × mS))} : ∃ s' c' I' W' p', Inv xs s' I' W' p' ∧ cn c c' ∧ ((lI (st true n c I W p) 1 (mw ((i : Int) + 1))).bind fun v1 => (D_L_age 32 v1 1243 (st true n c I W p)).bind fun r => (lI r.2 1 (mw ((i : Int) + 1))).bind fun w1 => (tgO r.2 1170 8).bind fun _ => (D_X9_age 1170 w1 r.2).bind fun r9 => (tgO r9.2 1170 8).bind fun _ => (D_X9_thrown 1170 r9.2).bind fun t => if t = r.1 then (if r.1 ≠ 0 then K r9.2 else (lL r9.2 1243 0).bind fun z => if mlcmp z (mi2l r9.1) = 0 then K r9.2 else N1 r9.2) else N2 r9.2) = K (st true n c' I' W' p') := by
  obtain ⟨s', c1, I1, W2, p1, k, v, I2, e8, hk, hc, e9, hI, h0, hw⟩ := lw_call (n := n) (c := c) (D8 := D_X8_age 32 (I 1 (i + 1))) (D9 := D_X9_age 1170 (I 1 (i + 1))) (cm := cmN) (both_go a_age h)
  refine ⟨s', c1, I2, W2, p1, hI, hc, ?_⟩
  refine bdk (rd (j := 1) (by omega) hn (by decide)) ?_
  rw [L_age z8T]
  refine bdk e8 ?_
  refine bdk (rd (j := 1) (by omega) hn (by decide)) ?_
  rw [hk]
  exact bdk z9T (bdk e9 (lw_tail h0 hw))
theorem B_years {i : Nat} (h : Inv xs s I W p) (hn : n ≤ 3072) (hi : i + 6 ≤ n) {K N1 N2 : mS → Option (mS ⊕ (Int × mS))} : ∃ s' c' I' W' p', Inv xs s' I' W' p' ∧ cn c c' ∧ ((lI (st true n c I W p) 1 (mw ((i : Int) + 1))).bind fun v1 => (lI (st true n c I W p) 1 (mw ((i : Int) + 2))).bind fun v2 => (D_L_years 32 v1 v2 1243 (st true n c I W p)).bind fun r => (lI r.2 1 (mw ((i : Int) + 1))).bind fun w1 => (lI r.2 1 (mw ((i : Int) + 2))).bind fun w2 => (tgO r.2 1170 8).bind fun _ => (D_X9_years 1170 w1 w2 r.2).bind fun r9 => (tgO r9.2 1170 8).bind fun _ => (D_X9_thrown 1170 r9.2).bind fun t => if t = r.1 then (if r.1 ≠ 0 then K r9.2 else (lL r9.2 1243 0).bind fun z => if mlcmp z (mi2l r9.1) = 0 then K r9.2 else N1 r9.2) else N2 r9.2) = K (st true n c' I' W' p') := by
  obtain ⟨s', c1, I1, W2, p1, k, v, I2, e8, hk, hc, e9, hI, h0, hw⟩ := lw_call (n := n) (c := c) (D8 := D_X8_years 32 (I 1 (i + 1)) (I 1 (i + 2))) (D9 := D_X9_years 1170 (I 1 (i + 1)) (I 1 (i + 2))) (cm := cmA) (both_go a_years h)
  refine ⟨s', c1, I2, W2, p1, hI, hc, ?_⟩
  refine bdk (rd (j := 1) (by omega) hn (by decide)) (bdk (rd (j := 2) (by omega) hn (by decide)) ?_)
  rw [L_years z8T]
  refine bdk e8 ?_
  refine bdk (rd (j := 1) (by omega) hn (by decide)) (bdk (rd (j := 2) (by omega) hn (by decide)) ?_)
  rw [hk, hk]
  exact bdk z9T (bdk e9 (lw_tail h0 hw))
theorem B_knot {i : Nat} (h : Inv xs s I W p) (hn : n ≤ 3072) (hi : i + 6 ≤ n) {K N1 N2 : mS → Option (mS ⊕ (Int × mS))} : ∃ s' c' I' W' p', Inv xs s' I' W' p' ∧ cn c c' ∧ ((lI (st true n c I W p) 1 (mw ((i : Int) + 1))).bind fun v1 => (lI (st true n c I W p) 1 (mw ((i : Int) + 2))).bind fun v2 => (D_L_knot 32 v1 v2 1243 (st true n c I W p)).bind fun r => (lI r.2 1 (mw ((i : Int) + 1))).bind fun w1 => (lI r.2 1 (mw ((i : Int) + 2))).bind fun w2 => (tgO r.2 1170 8).bind fun _ => (D_X9_knot 1170 w1 w2 r.2).bind fun r9 => (tgO r9.2 1170 8).bind fun _ => (D_X9_thrown 1170 r9.2).bind fun t => if t = r.1 then (if r.1 ≠ 0 then K r9.2 else (lL r9.2 1243 0).bind fun z => if mlcmp z (mi2l r9.1) = 0 then K r9.2 else N1 r9.2) else N2 r9.2) = K (st true n c' I' W' p') := by
  obtain ⟨s', c1, I1, W2, p1, k, v, I2, e8, hk, hc, e9, hI, h0, hw⟩ := lw_call (n := n) (c := c) (D8 := D_X8_knot 32 (I 1 (i + 1)) (I 1 (i + 2))) (D9 := D_X9_knot 1170 (I 1 (i + 1)) (I 1 (i + 2))) (cm := cmB) (both_go a_knot h)
  refine ⟨s', c1, I2, W2, p1, hI, hc, ?_⟩
  refine bdk (rd (j := 1) (by omega) hn (by decide)) (bdk (rd (j := 2) (by omega) hn (by decide)) ?_)
  rw [L_knot z8T]
  refine bdk e8 ?_
  refine bdk (rd (j := 1) (by omega) hn (by decide)) (bdk (rd (j := 2) (by omega) hn (by decide)) ?_)
  rw [hk, hk]
  exact bdk z9T (bdk e9 (lw_tail h0 hw))
theorem B_sample {i : Nat} (h : Inv xs s I W p) (hn : n ≤ 3072) (hi : i + 6 ≤ n) {K N1 N2 : mS → Option (mS ⊕ (Int × mS))} : ∃ s' c' I' W' p', Inv xs s' I' W' p' ∧ cn c c' ∧ ((lI (st true n c I W p) 1 (mw ((i : Int) + 1))).bind fun v1 => (lI (st true n c I W p) 1 (mw ((i : Int) + 2))).bind fun v2 => (D_L_sample 32 v1 v2 1243 (st true n c I W p)).bind fun r => (lI r.2 1 (mw ((i : Int) + 1))).bind fun w1 => (lI r.2 1 (mw ((i : Int) + 2))).bind fun w2 => (tgO r.2 1170 8).bind fun _ => (D_X9_sample 1170 w1 w2 r.2).bind fun r9 => (tgO r9.2 1170 8).bind fun _ => (D_X9_thrown 1170 r9.2).bind fun t => if t = r.1 then (if r.1 ≠ 0 then K r9.2 else (lL r9.2 1243 0).bind fun z => if mlcmp z (mi2l r9.1) = 0 then K r9.2 else N1 r9.2) else N2 r9.2) = K (st true n c' I' W' p') := by
  obtain ⟨s', c1, I1, W2, p1, k, v, I2, e8, hk, hc, e9, hI, h0, hw⟩ := lw_call (n := n) (c := c) (D8 := D_X8_sample 32 (I 1 (i + 1)) (I 1 (i + 2))) (D9 := D_X9_sample 1170 (I 1 (i + 1)) (I 1 (i + 2))) (cm := cmB) (both_go a_sample h)
  refine ⟨s', c1, I2, W2, p1, hI, hc, ?_⟩
  refine bdk (rd (j := 1) (by omega) hn (by decide)) (bdk (rd (j := 2) (by omega) hn (by decide)) ?_)
  rw [L_sample z8T]
  refine bdk e8 ?_
  refine bdk (rd (j := 1) (by omega) hn (by decide)) (bdk (rd (j := 2) (by omega) hn (by decide)) ?_)
  rw [hk, hk]
  exact bdk z9T (bdk e9 (lw_tail h0 hw))
theorem B_interval {i : Nat} (h : Inv xs s I W p) (hn : n ≤ 3072) (hi : i + 6 ≤ n) {K N1 N2 : mS → Option (mS ⊕ (Int × mS))} : ∃ s' c' I' W' p', Inv xs s' I' W' p' ∧ cn c c' ∧ ((lI (st true n c I W p) 1 (mw ((i : Int) + 1))).bind fun v1 => (lI (st true n c I W p) 1 (mw ((i : Int) + 2))).bind fun v2 => (lI (st true n c I W p) 1 (mw ((i : Int) + 3))).bind fun v3 => (D_L_interval 32 v1 v2 v3 1243 (st true n c I W p)).bind fun r => (lI r.2 1 (mw ((i : Int) + 1))).bind fun w1 => (lI r.2 1 (mw ((i : Int) + 2))).bind fun w2 => (lI r.2 1 (mw ((i : Int) + 3))).bind fun w3 => (tgO r.2 1170 8).bind fun _ => (D_X9_interval 1170 w1 w2 w3 r.2).bind fun r9 => (tgO r9.2 1170 8).bind fun _ => (D_X9_thrown 1170 r9.2).bind fun t => if t = r.1 then (if r.1 ≠ 0 then K r9.2 else (lL r9.2 1243 0).bind fun z => if mlcmp z (mi2l r9.1) = 0 then K r9.2 else N1 r9.2) else N2 r9.2) = K (st true n c' I' W' p') := by
  obtain ⟨s', c1, I1, W2, p1, k, v, I2, e8, hk, hc, e9, hI, h0, hw⟩ := lw_call (n := n) (c := c) (both_go (a_interval (t := I 1 (i + 1)) (k := I 1 (i + 2)) (w := I 1 (i + 3)) (h.m _)) h)
  refine ⟨s', c1, I2, W2, p1, hI, hc, ?_⟩
  refine bdk (rd (j := 1) (by omega) hn (by decide)) (bdk (rd (j := 2) (by omega) hn (by decide)) (bdk (rd (j := 3) (by omega) hn (by decide)) ?_))
  rw [L_interval z8T]
  refine bdk e8 ?_
  refine bdk (rd (j := 1) (by omega) hn (by decide)) (bdk (rd (j := 2) (by omega) hn (by decide)) (bdk (rd (j := 3) (by omega) hn (by decide)) ?_))
  rw [hk, hk, hk]
  exact bdk z9T (bdk e9 (lw_tail h0 hw))
theorem B_misfit {i : Nat} (h : Inv xs s I W p) (hn : n ≤ 3072) (hi : i + 6 ≤ n) {K N1 N2 : mS → Option (mS ⊕ (Int × mS))} : ∃ s' c' I' W' p', Inv xs s' I' W' p' ∧ cn c c' ∧ ((lI (st true n c I W p) 1 (mw ((i : Int) + 1))).bind fun v1 => (lI (st true n c I W p) 1 (mw ((i : Int) + 2))).bind fun v2 => (D_L_misfit 32 v1 v2 1243 (st true n c I W p)).bind fun r => (lI r.2 1 (mw ((i : Int) + 1))).bind fun w1 => (lI r.2 1 (mw ((i : Int) + 2))).bind fun w2 => (tgO r.2 1170 8).bind fun _ => (D_X9_misfit 1170 w1 w2 r.2).bind fun r9 => (tgO r9.2 1170 8).bind fun _ => (D_X9_thrown 1170 r9.2).bind fun t => if t = r.1 then (if r.1 ≠ 0 then K r9.2 else (lL r9.2 1243 0).bind fun z => if mlcmp z (mi2l r9.1) = 0 then K r9.2 else N1 r9.2) else N2 r9.2) = K (st true n c' I' W' p') := by
  obtain ⟨s', c1, I1, W2, p1, k, v, I2, e8, hk, hc, e9, hI, h0, hw⟩ := lw_call (n := n) (c := c) (D8 := D_X8_misfit 32 (I 1 (i + 1)) (I 1 (i + 2))) (D9 := D_X9_misfit 1170 (I 1 (i + 1)) (I 1 (i + 2))) (cm := cmN) (both_go a_misfit h)
  refine ⟨s', c1, I2, W2, p1, hI, hc, ?_⟩
  refine bdk (rd (j := 1) (by omega) hn (by decide)) (bdk (rd (j := 2) (by omega) hn (by decide)) ?_)
  rw [L_misfit z8T]
  refine bdk e8 ?_
  refine bdk (rd (j := 1) (by omega) hn (by decide)) (bdk (rd (j := 2) (by omega) hn (by decide)) ?_)
  rw [hk, hk]
  exact bdk z9T (bdk e9 (lw_tail h0 hw))
theorem B_place {i : Nat} (h : Inv xs s I W p) (hn : n ≤ 3072) (hi : i + 6 ≤ n) {K N1 N2 : mS → Option (mS ⊕ (Int × mS))} : ∃ s' c' I' W' p', Inv xs s' I' W' p' ∧ cn c c' ∧ ((lI (st true n c I W p) 1 (mw ((i : Int) + 1))).bind fun v1 => (lI (st true n c I W p) 1 (mw ((i : Int) + 2))).bind fun v2 => (D_L_place 32 v1 v2 1243 (st true n c I W p)).bind fun r => (lI r.2 1 (mw ((i : Int) + 1))).bind fun w1 => (lI r.2 1 (mw ((i : Int) + 2))).bind fun w2 => (tgO r.2 1170 8).bind fun _ => (D_X9_place 1170 w1 w2 r.2).bind fun r9 => (tgO r9.2 1170 8).bind fun _ => (D_X9_thrown 1170 r9.2).bind fun t => if t = r.1 then (if r.1 ≠ 0 then K r9.2 else (lL r9.2 1243 0).bind fun z => if mlcmp z (mi2l r9.1) = 0 then K r9.2 else N1 r9.2) else N2 r9.2) = K (st true n c' I' W' p') := by
  obtain ⟨s', c1, I1, W2, p1, k, v, I2, e8, hk, hc, e9, hI, h0, hw⟩ := lw_call (n := n) (c := c) (D8 := D_X8_place 32 (I 1 (i + 1)) (I 1 (i + 2))) (D9 := D_X9_place 1170 (I 1 (i + 1)) (I 1 (i + 2))) (cm := cmN) (both_go a_place h)
  refine ⟨s', c1, I2, W2, p1, hI, hc, ?_⟩
  refine bdk (rd (j := 1) (by omega) hn (by decide)) (bdk (rd (j := 2) (by omega) hn (by decide)) ?_)
  rw [L_place z8T]
  refine bdk e8 ?_
  refine bdk (rd (j := 1) (by omega) hn (by decide)) (bdk (rd (j := 2) (by omega) hn (by decide)) ?_)
  rw [hk, hk]
  exact bdk z9T (bdk e9 (lw_tail h0 hw))
theorem B_rule {i : Nat} (h : Inv xs s I W p) (hn : n ≤ 3072) (hi : i + 6 ≤ n) {K N1 N2 : mS → Option (mS ⊕ (Int × mS))} : ∃ s' c' I' W' p', Inv xs s' I' W' p' ∧ cn c c' ∧ ((lI (st true n c I W p) 1 (mw ((i : Int) + 1))).bind fun v1 => (lI (st true n c I W p) 1 (mw ((i : Int) + 2))).bind fun v2 => (D_L_rule 32 v1 v2 1243 (st true n c I W p)).bind fun r => (lI r.2 1 (mw ((i : Int) + 1))).bind fun w1 => (lI r.2 1 (mw ((i : Int) + 2))).bind fun w2 => (tgO r.2 1170 8).bind fun _ => (D_X9_rule 1170 w1 w2 r.2).bind fun r9 => (tgO r9.2 1170 8).bind fun _ => (D_X9_thrown 1170 r9.2).bind fun t => if t = r.1 then (if r.1 ≠ 0 then K r9.2 else (lL r9.2 1243 0).bind fun z => if mlcmp z (mi2l r9.1) = 0 then K r9.2 else N1 r9.2) else N2 r9.2) = K (st true n c' I' W' p') := by
  obtain ⟨s', c1, I1, W2, p1, k, v, I2, e8, hk, hc, e9, hI, h0, hw⟩ := lw_call (n := n) (c := c) (D8 := D_X8_rule 32 (I 1 (i + 1)) (I 1 (i + 2))) (D9 := D_X9_rule 1170 (I 1 (i + 1)) (I 1 (i + 2))) (cm := cmB) (both_go a_rule h)
  refine ⟨s', c1, I2, W2, p1, hI, hc, ?_⟩
  refine bdk (rd (j := 1) (by omega) hn (by decide)) (bdk (rd (j := 2) (by omega) hn (by decide)) ?_)
  rw [L_rule z8T]
  refine bdk e8 ?_
  refine bdk (rd (j := 1) (by omega) hn (by decide)) (bdk (rd (j := 2) (by omega) hn (by decide)) ?_)
  rw [hk, hk]
  exact bdk z9T (bdk e9 (lw_tail h0 hw))
theorem B_clash {i : Nat} (h : Inv xs s I W p) (hn : n ≤ 3072) (hi : i + 6 ≤ n) {K N1 N2 : mS → Option (mS ⊕ (Int × mS))} : ∃ s' c' I' W' p', Inv xs s' I' W' p' ∧ cn c c' ∧ ((lI (st true n c I W p) 1 (mw ((i : Int) + 1))).bind fun v1 => (D_L_clash 32 v1 1243 (st true n c I W p)).bind fun r => (lI r.2 1 (mw ((i : Int) + 1))).bind fun w1 => (tgO r.2 1170 8).bind fun _ => (D_X9_clash 1170 w1 r.2).bind fun r9 => (tgO r9.2 1170 8).bind fun _ => (D_X9_thrown 1170 r9.2).bind fun t => if t = r.1 then (if r.1 ≠ 0 then K r9.2 else (lL r9.2 1243 0).bind fun z => if mlcmp z (mi2l r9.1) = 0 then K r9.2 else N1 r9.2) else N2 r9.2) = K (st true n c' I' W' p') := by
  obtain ⟨s', c1, I1, W2, p1, k, v, I2, e8, hk, hc, e9, hI, h0, hw⟩ := lw_call (n := n) (c := c) (D8 := D_X8_clash 32 (I 1 (i + 1))) (D9 := D_X9_clash 1170 (I 1 (i + 1))) (cm := cmA) (both_go a_clash h)
  refine ⟨s', c1, I2, W2, p1, hI, hc, ?_⟩
  refine bdk (rd (j := 1) (by omega) hn (by decide)) ?_
  rw [L_clash z8T]
  refine bdk e8 ?_
  refine bdk (rd (j := 1) (by omega) hn (by decide)) ?_
  rw [hk]
  exact bdk z9T (bdk e9 (lw_tail h0 hw))
theorem B_without {i : Nat} (h : Inv xs s I W p) (hn : n ≤ 3072) (hi : i + 6 ≤ n) {K N1 N2 : mS → Option (mS ⊕ (Int × mS))} : ∃ s' c' I' W' p', Inv xs s' I' W' p' ∧ cn c c' ∧ ((lI (st true n c I W p) 1 (mw ((i : Int) + 1))).bind fun v1 => (lI (st true n c I W p) 1 (mw ((i : Int) + 2))).bind fun v2 => (D_L_without 32 v1 v2 1243 (st true n c I W p)).bind fun r => (lI r.2 1 (mw ((i : Int) + 1))).bind fun w1 => (lI r.2 1 (mw ((i : Int) + 2))).bind fun w2 => (tgO r.2 1170 8).bind fun _ => (D_X9_without 1170 w1 w2 r.2).bind fun r9 => (tgO r9.2 1170 8).bind fun _ => (D_X9_thrown 1170 r9.2).bind fun t => if t = r.1 then (if r.1 ≠ 0 then K r9.2 else (lL r9.2 1243 0).bind fun z => if mlcmp z (mi2l r9.1) = 0 then K r9.2 else N1 r9.2) else N2 r9.2) = K (st true n c' I' W' p') := by
  obtain ⟨s', c1, I1, W2, p1, k, v, I2, e8, hk, hc, e9, hI, h0, hw⟩ := lw_call (n := n) (c := c) (D8 := D_X8_without 32 (I 1 (i + 1)) (I 1 (i + 2))) (D9 := D_X9_without 1170 (I 1 (i + 1)) (I 1 (i + 2))) (cm := cmB) (both_go a_without h)
  refine ⟨s', c1, I2, W2, p1, hI, hc, ?_⟩
  refine bdk (rd (j := 1) (by omega) hn (by decide)) (bdk (rd (j := 2) (by omega) hn (by decide)) ?_)
  rw [L_without z8T]
  refine bdk e8 ?_
  refine bdk (rd (j := 1) (by omega) hn (by decide)) (bdk (rd (j := 2) (by omega) hn (by decide)) ?_)
  rw [hk, hk]
  exact bdk z9T (bdk e9 (lw_tail h0 hw))
theorem B_pinned {i : Nat} (h : Inv xs s I W p) (hn : n ≤ 3072) (hi : i + 6 ≤ n) {K N1 N2 : mS → Option (mS ⊕ (Int × mS))} : ∃ s' c' I' W' p', Inv xs s' I' W' p' ∧ cn c c' ∧ ((lI (st true n c I W p) 1 (mw ((i : Int) + 1))).bind fun v1 => (lI (st true n c I W p) 1 (mw ((i : Int) + 2))).bind fun v2 => (lI (st true n c I W p) 1 (mw ((i : Int) + 3))).bind fun v3 => (D_L_pinned 32 v1 v2 v3 1243 (st true n c I W p)).bind fun r => (lI r.2 1 (mw ((i : Int) + 1))).bind fun w1 => (lI r.2 1 (mw ((i : Int) + 2))).bind fun w2 => (lI r.2 1 (mw ((i : Int) + 3))).bind fun w3 => (tgO r.2 1170 8).bind fun _ => (D_X9_pinned 1170 w1 w2 w3 r.2).bind fun r9 => (tgO r9.2 1170 8).bind fun _ => (D_X9_thrown 1170 r9.2).bind fun t => if t = r.1 then (if r.1 ≠ 0 then K r9.2 else (lL r9.2 1243 0).bind fun z => if mlcmp z (mi2l r9.1) = 0 then K r9.2 else N1 r9.2) else N2 r9.2) = K (st true n c' I' W' p') := by
  obtain ⟨s', c1, I1, W2, p1, k, v, I2, e8, hk, hc, e9, hI, h0, hw⟩ := lw_call (n := n) (c := c) (D8 := D_X8_pinned 32 (I 1 (i + 1)) (I 1 (i + 2)) (I 1 (i + 3))) (D9 := D_X9_pinned 1170 (I 1 (i + 1)) (I 1 (i + 2)) (I 1 (i + 3))) (cm := cmB) (both_go a_pinned h)
  refine ⟨s', c1, I2, W2, p1, hI, hc, ?_⟩
  refine bdk (rd (j := 1) (by omega) hn (by decide)) (bdk (rd (j := 2) (by omega) hn (by decide)) (bdk (rd (j := 3) (by omega) hn (by decide)) ?_))
  rw [L_pinned z8T]
  refine bdk e8 ?_
  refine bdk (rd (j := 1) (by omega) hn (by decide)) (bdk (rd (j := 2) (by omega) hn (by decide)) (bdk (rd (j := 3) (by omega) hn (by decide)) ?_))
  rw [hk, hk, hk]
  exact bdk z9T (bdk e9 (lw_tail h0 hw))
theorem B_doomed {i : Nat} (h : Inv xs s I W p) (hn : n ≤ 3072) (hi : i + 6 ≤ n) {K N1 N2 : mS → Option (mS ⊕ (Int × mS))} : ∃ s' c' I' W' p', Inv xs s' I' W' p' ∧ cn c c' ∧ ((lI (st true n c I W p) 1 (mw ((i : Int) + 1))).bind fun v1 => (D_L_doomed 32 v1 1243 (st true n c I W p)).bind fun r => (lI r.2 1 (mw ((i : Int) + 1))).bind fun w1 => (tgO r.2 1170 8).bind fun _ => (D_X9_doomed 1170 w1 r.2).bind fun r9 => (tgO r9.2 1170 8).bind fun _ => (D_X9_thrown 1170 r9.2).bind fun t => if t = r.1 then (if r.1 ≠ 0 then K r9.2 else (lL r9.2 1243 0).bind fun z => if mlcmp z (mi2l r9.1) = 0 then K r9.2 else N1 r9.2) else N2 r9.2) = K (st true n c' I' W' p') := by
  obtain ⟨s', c1, I1, W2, p1, k, v, I2, e8, hk, hc, e9, hI, h0, hw⟩ := lw_call (n := n) (c := c) (D8 := D_X8_doomed 32 (I 1 (i + 1))) (D9 := D_X9_doomed 1170 (I 1 (i + 1))) (cm := cmN) (both_go a_doomed h)
  refine ⟨s', c1, I2, W2, p1, hI, hc, ?_⟩
  refine bdk (rd (j := 1) (by omega) hn (by decide)) ?_
  rw [L_doomed z8T]
  refine bdk e8 ?_
  refine bdk (rd (j := 1) (by omega) hn (by decide)) ?_
  rw [hk]
  exact bdk z9T (bdk e9 (lw_tail h0 hw))
theorem B_phase {i : Nat} (h : Inv xs s I W p) (hn : n ≤ 3072) (hi : i + 6 ≤ n) {K N1 N2 : mS → Option (mS ⊕ (Int × mS))} : ∃ s' c' I' W' p', Inv xs s' I' W' p' ∧ cn c c' ∧ ((lI (st true n c I W p) 1 (mw ((i : Int) + 1))).bind fun v1 => (lI (st true n c I W p) 1 (mw ((i : Int) + 2))).bind fun v2 => (D_L_phase 32 v1 v2 1243 (st true n c I W p)).bind fun r => (lI r.2 1 (mw ((i : Int) + 1))).bind fun w1 => (lI r.2 1 (mw ((i : Int) + 2))).bind fun w2 => (tgO r.2 1170 8).bind fun _ => (D_X9_phase 1170 w1 w2 r.2).bind fun r9 => (tgO r9.2 1170 8).bind fun _ => (D_X9_thrown 1170 r9.2).bind fun t => if t = r.1 then (if r.1 ≠ 0 then K r9.2 else (lL r9.2 1243 0).bind fun z => if mlcmp z (mi2l r9.1) = 0 then K r9.2 else N1 r9.2) else N2 r9.2) = K (st true n c' I' W' p') := by
  obtain ⟨s', c1, I1, W2, p1, k, v, I2, e8, hk, hc, e9, hI, h0, hw⟩ := lw_call (n := n) (c := c) (D8 := D_X8_phase 32 (I 1 (i + 1)) (I 1 (i + 2))) (D9 := D_X9_phase 1170 (I 1 (i + 1)) (I 1 (i + 2))) (cm := cmB) (both_go a_phase h)
  refine ⟨s', c1, I2, W2, p1, hI, hc, ?_⟩
  refine bdk (rd (j := 1) (by omega) hn (by decide)) (bdk (rd (j := 2) (by omega) hn (by decide)) ?_)
  rw [L_phase z8T]
  refine bdk e8 ?_
  refine bdk (rd (j := 1) (by omega) hn (by decide)) (bdk (rd (j := 2) (by omega) hn (by decide)) ?_)
  rw [hk, hk]
  exact bdk z9T (bdk e9 (lw_tail h0 hw))
theorem B_member {i : Nat} (h : Inv xs s I W p) (hn : n ≤ 3072) (hi : i + 6 ≤ n) {K N1 N2 : mS → Option (mS ⊕ (Int × mS))} : ∃ s' c' I' W' p', Inv xs s' I' W' p' ∧ cn c c' ∧ ((lI (st true n c I W p) 1 (mw ((i : Int) + 1))).bind fun v1 => (lI (st true n c I W p) 1 (mw ((i : Int) + 2))).bind fun v2 => (D_L_member 32 v1 v2 1243 (st true n c I W p)).bind fun r => (lI r.2 1 (mw ((i : Int) + 1))).bind fun w1 => (lI r.2 1 (mw ((i : Int) + 2))).bind fun w2 => (tgO r.2 1170 8).bind fun _ => (D_X9_member 1170 w1 w2 r.2).bind fun r9 => (tgO r9.2 1170 8).bind fun _ => (D_X9_thrown 1170 r9.2).bind fun t => if t = r.1 then (if r.1 ≠ 0 then K r9.2 else (lL r9.2 1243 0).bind fun z => if mlcmp z (mi2l r9.1) = 0 then K r9.2 else N1 r9.2) else N2 r9.2) = K (st true n c' I' W' p') := by
  obtain ⟨s', c1, I1, W2, p1, k, v, I2, e8, hk, hc, e9, hI, h0, hw⟩ := lw_call (n := n) (c := c) (D8 := D_X8_member 32 (I 1 (i + 1)) (I 1 (i + 2))) (D9 := D_X9_member 1170 (I 1 (i + 1)) (I 1 (i + 2))) (cm := cmN) (both_go a_member h)
  refine ⟨s', c1, I2, W2, p1, hI, hc, ?_⟩
  refine bdk (rd (j := 1) (by omega) hn (by decide)) (bdk (rd (j := 2) (by omega) hn (by decide)) ?_)
  rw [L_member z8T]
  refine bdk e8 ?_
  refine bdk (rd (j := 1) (by omega) hn (by decide)) (bdk (rd (j := 2) (by omega) hn (by decide)) ?_)
  rw [hk, hk]
  exact bdk z9T (bdk e9 (lw_tail h0 hw))
theorem B_trial {i : Nat} (h : Inv xs s I W p) (hn : n ≤ 3072) (hi : i + 6 ≤ n) {K N1 N2 : mS → Option (mS ⊕ (Int × mS))} : ∃ s' c' I' W' p', Inv xs s' I' W' p' ∧ cn c c' ∧ ((lI (st true n c I W p) 1 (mw ((i : Int) + 1))).bind fun v1 => (D_L_trial 32 v1 1243 (st true n c I W p)).bind fun r => (lI r.2 1 (mw ((i : Int) + 1))).bind fun w1 => (tgO r.2 1170 8).bind fun _ => (D_X9_trial 1170 w1 r.2).bind fun r9 => (tgO r9.2 1170 8).bind fun _ => (D_X9_thrown 1170 r9.2).bind fun t => if t = r.1 then (if r.1 ≠ 0 then K r9.2 else (lL r9.2 1243 0).bind fun z => if mlcmp z (mi2l r9.1) = 0 then K r9.2 else N1 r9.2) else N2 r9.2) = K (st true n c' I' W' p') := by
  obtain ⟨s', c1, I1, W2, p1, k, v, I2, e8, hk, hc, e9, hI, h0, hw⟩ := lw_call (n := n) (c := c) (D8 := D_X8_trial 32 (I 1 (i + 1))) (D9 := D_X9_trial 1170 (I 1 (i + 1))) (cm := cmA) (both_go a_trial h)
  refine ⟨s', c1, I2, W2, p1, hI, hc, ?_⟩
  refine bdk (rd (j := 1) (by omega) hn (by decide)) ?_
  rw [L_trial z8T]
  refine bdk e8 ?_
  refine bdk (rd (j := 1) (by omega) hn (by decide)) ?_
  rw [hk]
  exact bdk z9T (bdk e9 (lw_tail h0 hw))
theorem B_tried {i : Nat} (h : Inv xs s I W p) (hn : n ≤ 3072) (hi : i + 6 ≤ n) {K N1 N2 : mS → Option (mS ⊕ (Int × mS))} : ∃ s' c' I' W' p', Inv xs s' I' W' p' ∧ cn c c' ∧ ((lI (st true n c I W p) 1 (mw ((i : Int) + 1))).bind fun v1 => (D_L_tried 32 v1 1243 (st true n c I W p)).bind fun r => (lI r.2 1 (mw ((i : Int) + 1))).bind fun w1 => (tgO r.2 1170 8).bind fun _ => (D_X9_tried 1170 w1 r.2).bind fun r9 => (tgO r9.2 1170 8).bind fun _ => (D_X9_thrown 1170 r9.2).bind fun t => if t = r.1 then (if r.1 ≠ 0 then K r9.2 else (lL r9.2 1243 0).bind fun z => if mlcmp z (mi2l r9.1) = 0 then K r9.2 else N1 r9.2) else N2 r9.2) = K (st true n c' I' W' p') := by
  obtain ⟨s', c1, I1, W2, p1, k, v, I2, e8, hk, hc, e9, hI, h0, hw⟩ := lw_call (n := n) (c := c) (D8 := D_X8_tried 32 (I 1 (i + 1))) (D9 := D_X9_tried 1170 (I 1 (i + 1))) (cm := cmN) (both_go a_tried h)
  refine ⟨s', c1, I2, W2, p1, hI, hc, ?_⟩
  refine bdk (rd (j := 1) (by omega) hn (by decide)) ?_
  rw [L_tried z8T]
  refine bdk e8 ?_
  refine bdk (rd (j := 1) (by omega) hn (by decide)) ?_
  rw [hk]
  exact bdk z9T (bdk e9 (lw_tail h0 hw))
theorem B_feed {i : Nat} (h : Inv xs s I W p) (hn : n ≤ 3072) (hi : i + 6 ≤ n) {K N1 : mS → Option (mS ⊕ (Int × mS))} : ∃ s' c' I' W' p', Inv xs s' I' W' p' ∧ cn c c' ∧ ((lI (st true n c I W p) 1 (mw ((i : Int) + 1))).bind fun v1 => (lI (st true n c I W p) 1 (mw ((i : Int) + 2))).bind fun v2 => (lI (st true n c I W p) 1 (mw ((i : Int) + 3))).bind fun v3 => (lI (st true n c I W p) 1 (mw ((i : Int) + 4))).bind fun v4 => (lI (st true n c I W p) 1 (mw ((i : Int) + 5))).bind fun v5 => (tgO (st true n c I W p) 32 7).bind fun _ => (D_X8_feed 32 v1 v2 v3 v4 v5 (st true n c I W p)).bind fun r => (lI r.2 1 (mw ((i : Int) + 1))).bind fun w1 => (lI r.2 1 (mw ((i : Int) + 2))).bind fun w2 => (lI r.2 1 (mw ((i : Int) + 3))).bind fun w3 => (lI r.2 1 (mw ((i : Int) + 4))).bind fun w4 => (lI r.2 1 (mw ((i : Int) + 5))).bind fun w5 => (tgO r.2 1170 8).bind fun _ => (D_X9_feed 1170 w1 w2 w3 w4 w5 r.2).bind fun r9 => if r.1 = r9.1 then K r9.2 else N1 r9.2) = K (st true n c' I' W' p') := by
  obtain ⟨s', c1, I1, W1, p1, v, I2, e8, hk, hc, e9, hI⟩ := lw_callp (n := n) (c := c) (D8 := D_X8_feed 32 (I 1 (i + 1)) (I 1 (i + 2)) (I 1 (i + 3)) (I 1 (i + 4)) (I 1 (i + 5))) (D9 := D_X9_feed 1170 (I 1 (i + 1)) (I 1 (i + 2)) (I 1 (i + 3)) (I 1 (i + 4)) (I 1 (i + 5))) (a_feed (h.m _) (h.m _) (h.m _) (h.m _) (h.m _)) h
  refine ⟨s', c1, I2, W1, p1, hI, hc, ?_⟩
  refine bdk (rd (j := 1) (by omega) hn (by decide)) (bdk (rd (j := 2) (by omega) hn (by decide)) (bdk (rd (j := 3) (by omega) hn (by decide)) (bdk (rd (j := 4) (by omega) hn (by decide)) (bdk (rd (j := 5) (by omega) hn (by decide)) ?_))))
  refine bdk z8T (bdk e8 ?_)
  refine bdk (rd (j := 1) (by omega) hn (by decide)) (bdk (rd (j := 2) (by omega) hn (by decide)) (bdk (rd (j := 3) (by omega) hn (by decide)) (bdk (rd (j := 4) (by omega) hn (by decide)) (bdk (rd (j := 5) (by omega) hn (by decide)) ?_))))
  rw [hk, hk, hk, hk, hk]
  refine bdk z9T (bdk e9 ?_)
  rw [if_pos rfl]
theorem B_fault {i : Nat} (h : Inv xs s I W p) (hn : n ≤ 3072) (hi : i + 6 ≤ n) {K N1 : mS → Option (mS ⊕ (Int × mS))} : ∃ s' c' I' W' p', Inv xs s' I' W' p' ∧ cn c c' ∧ ((tgO (st true n c I W p) 32 7).bind fun _ => (D_X8_fault 32 (st true n c I W p)).bind fun r => (tgO (st true n c I W p) 1170 8).bind fun _ => (D_X9_fault 1170 (st true n c I W p)).bind fun r9 => if r = r9.1 then K r9.2 else N1 r9.2) = K (st true n c' I' W' p') := by
  obtain ⟨s', c1, W1, p1, v, I2, e8, hc, e9, hI⟩ := lw_callo (n := n) (c := c) (D8 := D_X8_fault 32) (D9 := D_X9_fault 1170) a_fault h
  refine ⟨s', c1, I2, W1, p1, hI, hc, ?_⟩
  refine bdk z8T (bdk e8 ?_)
  refine bdk z9T (bdk e9 ?_)
  rw [if_pos rfl]
theorem B_undo {i : Nat} (h : Inv xs s I W p) (hn : n ≤ 3072) (hi : i + 6 ≤ n) {K N1 : mS → Option (mS ⊕ (Int × mS))} : ∃ s' c' I' W' p', Inv xs s' I' W' p' ∧ cn c c' ∧ ((tgO (st true n c I W p) 32 7).bind fun _ => (D_X8_undo 32 (st true n c I W p)).bind fun r => (tgO r.2 1170 8).bind fun _ => (D_X9_undo 1170 r.2).bind fun r9 => if r.1 = r9.1 then K r9.2 else N1 r9.2) = K (st true n c' I' W' p') := by
  obtain ⟨s', c1, I1, W1, p1, v, I2, e8, hk, hc, e9, hI⟩ := lw_callp (n := n) (c := c) (D8 := D_X8_undo 32) (D9 := D_X9_undo 1170) a_undo h
  refine ⟨s', c1, I2, W1, p1, hI, hc, ?_⟩
  refine bdk z8T (bdk e8 ?_)
  refine bdk z9T (bdk e9 ?_)
  rw [if_pos rfl]
theorem B_blame {i : Nat} (h : Inv xs s I W p) (hn : n ≤ 3072) (hi : i + 6 ≤ n) {K N1 : mS → Option (mS ⊕ (Int × mS))} : ∃ s' c' I' W' p', Inv xs s' I' W' p' ∧ cn c c' ∧ ((tgO (st true n c I W p) 32 7).bind fun _ => (D_X8_blame 32 (st true n c I W p)).bind fun r => (tgO r.2 1170 8).bind fun _ => (D_X9_blame 1170 r.2).bind fun r9 => if r.1 = r9.1 then K r9.2 else N1 r9.2) = K (st true n c' I' W' p') := by
  obtain ⟨s', c1, I1, W1, p1, v, I2, e8, hk, hc, e9, hI⟩ := lw_callp (n := n) (c := c) (D8 := D_X8_blame 32) (D9 := D_X9_blame 1170) a_blame h
  refine ⟨s', c1, I2, W1, p1, hI, hc, ?_⟩
  refine bdk z8T (bdk e8 ?_)
  refine bdk z9T (bdk e9 ?_)
  rw [if_pos rfl]
theorem B_needless {i : Nat} (h : Inv xs s I W p) (hn : n ≤ 3072) (hi : i + 6 ≤ n) {K N1 : mS → Option (mS ⊕ (Int × mS))} : ∃ s' c' I' W' p', Inv xs s' I' W' p' ∧ cn c c' ∧ ((tgO (st true n c I W p) 32 7).bind fun _ => (D_X8_needless 32 (st true n c I W p)).bind fun r => (tgO r.2 1170 8).bind fun _ => (D_X9_needless 1170 r.2).bind fun r9 => if r.1 = r9.1 then K r9.2 else N1 r9.2) = K (st true n c' I' W' p') := by
  obtain ⟨s', c1, I1, W1, p1, v, I2, e8, hk, hc, e9, hI⟩ := lw_callp (n := n) (c := c) (D8 := D_X8_needless 32) (D9 := D_X9_needless 1170) a_needless h
  refine ⟨s', c1, I2, W1, p1, hI, hc, ?_⟩
  refine bdk z8T (bdk e8 ?_)
  refine bdk z9T (bdk e9 ?_)
  rw [if_pos rfl]
theorem B_loosened {i : Nat} (h : Inv xs s I W p) (hn : n ≤ 3072) (hi : i + 6 ≤ n) {K N1 : mS → Option (mS ⊕ (Int × mS))} : ∃ s' c' I' W' p', Inv xs s' I' W' p' ∧ cn c c' ∧ ((tgO (st true n c I W p) 32 7).bind fun _ => (D_X8_loosened 32 (st true n c I W p)).bind fun r => (tgO r.2 1170 8).bind fun _ => (D_X9_loosened 1170 r.2).bind fun r9 => if r.1 = r9.1 then K r9.2 else N1 r9.2) = K (st true n c' I' W' p') := by
  obtain ⟨s', c1, I1, W1, p1, v, I2, e8, hk, hc, e9, hI⟩ := lw_callp (n := n) (c := c) (D8 := D_X8_loosened 32) (D9 := D_X9_loosened 1170) a_loosened h
  refine ⟨s', c1, I2, W1, p1, hI, hc, ?_⟩
  refine bdk z8T (bdk e8 ?_)
  refine bdk z9T (bdk e9 ?_)
  rw [if_pos rfl]
theorem B_shifted {i : Nat} (h : Inv xs s I W p) (hn : n ≤ 3072) (hi : i + 6 ≤ n) {K N1 : mS → Option (mS ⊕ (Int × mS))} : ∃ s' c' I' W' p', Inv xs s' I' W' p' ∧ cn c c' ∧ ((tgO (st true n c I W p) 32 7).bind fun _ => (D_X8_shifted 32 (st true n c I W p)).bind fun r => (tgO r.2 1170 8).bind fun _ => (D_X9_shifted 1170 r.2).bind fun r9 => if r.1 = r9.1 then K r9.2 else N1 r9.2) = K (st true n c' I' W' p') := by
  obtain ⟨s', c1, I1, W1, p1, v, I2, e8, hk, hc, e9, hI⟩ := lw_callp (n := n) (c := c) (D8 := D_X8_shifted 32) (D9 := D_X9_shifted 1170) a_shifted h
  refine ⟨s', c1, I2, W1, p1, hI, hc, ?_⟩
  refine bdk z8T (bdk e8 ?_)
  refine bdk z9T (bdk e9 ?_)
  rw [if_pos rfl]
theorem B_status {i : Nat} (h : Inv xs s I W p) (hn : n ≤ 3072) (hi : i + 6 ≤ n) {K N1 : mS → Option (mS ⊕ (Int × mS))} : ∃ s' c' I' W' p', Inv xs s' I' W' p' ∧ cn c c' ∧ ((lI (st true n c I W p) 1 (mw ((i : Int) + 1))).bind fun v1 => (tgO (st true n c I W p) 32 7).bind fun _ => (D_X8_status 32 v1 (st true n c I W p)).bind fun r => (lI (st true n c I W p) 1 (mw ((i : Int) + 1))).bind fun w1 => (tgO (st true n c I W p) 1170 8).bind fun _ => (D_X9_status 1170 w1 (st true n c I W p)).bind fun r9 => if r = r9.1 then K r9.2 else N1 r9.2) = K (st true n c' I' W' p') := by
  obtain ⟨s', c1, W1, p1, v, I2, e8, hc, e9, hI⟩ := lw_callo (n := n) (c := c) (D8 := D_X8_status 32 (I 1 (i + 1))) (D9 := D_X9_status 1170 (I 1 (i + 1))) a_status h
  refine ⟨s', c1, I2, W1, p1, hI, hc, ?_⟩
  refine bdk (rd (j := 1) (by omega) hn (by decide)) ?_
  refine bdk z8T (bdk e8 ?_)
  refine bdk (rd (j := 1) (by omega) hn (by decide)) ?_
  refine bdk z9T (bdk e9 ?_)
  rw [if_pos rfl]
theorem B_print {i : Nat} (h : Inv xs s I W p) (hn : n ≤ 3072) (hi : i + 6 ≤ n) {K N1 : mS → Option (mS ⊕ (Int × mS))} : ∃ s' c' I' W' p', Inv xs s' I' W' p' ∧ cn c c' ∧ ((tgO (st true n c I W p) 32 7).bind fun _ => (D_X8_print 32 (st true n c I W p)).bind fun r => (tgO (st true n c I W p) 1170 8).bind fun _ => (D_X9_print 1170 (st true n c I W p)).bind fun r9 => if mlcmp r r9.1 = 0 then K r9.2 else N1 r9.2) = K (st true n c' I' W' p') := by
  obtain ⟨v, I', e8, e9, m1, l1⟩ := a_print (n := n) (c := c) h.1 h.2.1
  refine ⟨s, c, I', W, p, ⟨h.1.fr (fun b k q => l1 b k q) (fun _ _ => rfl), m1, fun k => by rw [l1 1 k (by omega)]; exact h.2.2 k⟩, cn0, ?_⟩
  refine bdk z8T (bdk e8 (bdk z9T (bdk e9 ?_)))
  rw [if_pos (mlcmp_0.2 rfl)]
def LQ (n : Nat) (xs : Nat → Int32) (f i : Nat) (c : Nat × Nat × Nat × Nat) (X : Option (mS ⊕ (Int × mS))) : Prop := ∃ s' c' I' W' p', Inv xs s' I' W' p' ∧ cn c c' ∧ X = D_L_law_1914 (D_L_law_23 f) 1 32 1170 1243 (i : Int) (st true n c' I' W' p')
theorem bdx {α β : Type} {o : Option α} {x : α} {F : α → Option β} {Q : Option β → Prop} (e : o = some x) (k : Q (F x)) : Q (o.bind F) := by rw [e]; exact k
def lwN (σ : mS) : Option (mS ⊕ (Int × mS)) := (bO 0).bind fun v => some (Sum.inr (v, σ))
theorem lw_all {i f : Nat} (h : Inv xs s I W p) (hn : n ≤ 3072) (hi : i + 6 ≤ n) : LQ n xs f i c (D_L_law_23 (f + 1) 1 32 1170 1243 (i : Int) (st true n c I W p)) := by
  refine bdx (s_aLn (by omega)) ?_
  show LQ n xs f i c (if mw ((n : Int) - 6) < (i : Int) then _ else _)
  rw [mw_of (by omega) (by omega), if_neg (by omega)]
  refine bdx (s_lIx (by omega) (by omega)) ?_
  rw [toN]
  show LQ n xs f i c (if mand (I 1 i) 31 = 0 then _ else _)
  by_cases q0 : mand (I 1 i) 31 = 0
  · rw [if_pos q0]
    exact B_feed (K := D_L_law_1914 (D_L_law_23 f) 1 32 1170 1243 (i : Int)) (N1 := lwN) h hn hi
  rw [if_neg q0]
  by_cases q1 : mand (I 1 i) 31 = 1
  · rw [if_pos q1]
    exact B_text (K := D_L_law_1914 (D_L_law_23 f) 1 32 1170 1243 (i : Int)) (N1 := lwN) (N2 := lwN) h hn hi
  rw [if_neg q1]
  by_cases q2 : mand (I 1 i) 31 = 2
  · rw [if_pos q2]
    exact B_fault (K := D_L_law_1914 (D_L_law_23 f) 1 32 1170 1243 (i : Int)) (N1 := lwN) h hn hi
  rw [if_neg q2]
  by_cases q3 : mand (I 1 i) 31 = 3
  · rw [if_pos q3]
    exact B_set (K := D_L_law_1914 (D_L_law_23 f) 1 32 1170 1243 (i : Int)) (N1 := lwN) (N2 := lwN) h hn hi
  rw [if_neg q3]
  by_cases q4 : mand (I 1 i) 31 = 4
  · rw [if_pos q4]
    exact B_redate (K := D_L_law_1914 (D_L_law_23 f) 1 32 1170 1243 (i : Int)) (N1 := lwN) (N2 := lwN) h hn hi
  rw [if_neg q4]
  by_cases q5 : mand (I 1 i) 31 = 5
  · rw [if_pos q5]
    exact B_before (K := D_L_law_1914 (D_L_law_23 f) 1 32 1170 1243 (i : Int)) (N1 := lwN) (N2 := lwN) h hn hi
  rw [if_neg q5]
  by_cases q6 : mand (I 1 i) 31 = 6
  · rw [if_pos q6]
    exact B_bounds (K := D_L_law_1914 (D_L_law_23 f) 1 32 1170 1243 (i : Int)) (N1 := lwN) (N2 := lwN) h hn hi
  rw [if_neg q6]
  by_cases q7 : mand (I 1 i) 31 = 7
  · rw [if_pos q7]
    exact B_drop (K := D_L_law_1914 (D_L_law_23 f) 1 32 1170 1243 (i : Int)) (N1 := lwN) (N2 := lwN) h hn hi
  rw [if_neg q7]
  by_cases q8 : mand (I 1 i) 31 = 8
  · rw [if_pos q8]
    exact B_undo (K := D_L_law_1914 (D_L_law_23 f) 1 32 1170 1243 (i : Int)) (N1 := lwN) h hn hi
  rw [if_neg q8]
  by_cases q9 : mand (I 1 i) 31 = 9
  · rw [if_pos q9]
    exact B_told (K := D_L_law_1914 (D_L_law_23 f) 1 32 1170 1243 (i : Int)) (N1 := lwN) (N2 := lwN) h hn hi
  rw [if_neg q9]
  by_cases q10 : mand (I 1 i) 31 = 10
  · rw [if_pos q10]
    exact B_age (K := D_L_law_1914 (D_L_law_23 f) 1 32 1170 1243 (i : Int)) (N1 := lwN) (N2 := lwN) h hn hi
  rw [if_neg q10]
  by_cases q11 : mand (I 1 i) 31 = 11
  · rw [if_pos q11]
    exact B_years (K := D_L_law_1914 (D_L_law_23 f) 1 32 1170 1243 (i : Int)) (N1 := lwN) (N2 := lwN) h hn hi
  rw [if_neg q11]
  by_cases q12 : mand (I 1 i) 31 = 12
  · rw [if_pos q12]
    exact B_knot (K := D_L_law_1914 (D_L_law_23 f) 1 32 1170 1243 (i : Int)) (N1 := lwN) (N2 := lwN) h hn hi
  rw [if_neg q12]
  by_cases q13 : mand (I 1 i) 31 = 13
  · rw [if_pos q13]
    exact B_sample (K := D_L_law_1914 (D_L_law_23 f) 1 32 1170 1243 (i : Int)) (N1 := lwN) (N2 := lwN) h hn hi
  rw [if_neg q13]
  by_cases q14 : mand (I 1 i) 31 = 14
  · rw [if_pos q14]
    exact B_interval (K := D_L_law_1914 (D_L_law_23 f) 1 32 1170 1243 (i : Int)) (N1 := lwN) (N2 := lwN) h hn hi
  rw [if_neg q14]
  by_cases q15 : mand (I 1 i) 31 = 15
  · rw [if_pos q15]
    exact B_misfit (K := D_L_law_1914 (D_L_law_23 f) 1 32 1170 1243 (i : Int)) (N1 := lwN) (N2 := lwN) h hn hi
  rw [if_neg q15]
  by_cases q16 : mand (I 1 i) 31 = 16
  · rw [if_pos q16]
    exact B_place (K := D_L_law_1914 (D_L_law_23 f) 1 32 1170 1243 (i : Int)) (N1 := lwN) (N2 := lwN) h hn hi
  rw [if_neg q16]
  by_cases q17 : mand (I 1 i) 31 = 17
  · rw [if_pos q17]
    exact B_rule (K := D_L_law_1914 (D_L_law_23 f) 1 32 1170 1243 (i : Int)) (N1 := lwN) (N2 := lwN) h hn hi
  rw [if_neg q17]
  by_cases q18 : mand (I 1 i) 31 = 18
  · rw [if_pos q18]
    exact B_clash (K := D_L_law_1914 (D_L_law_23 f) 1 32 1170 1243 (i : Int)) (N1 := lwN) (N2 := lwN) h hn hi
  rw [if_neg q18]
  by_cases q19 : mand (I 1 i) 31 = 19
  · rw [if_pos q19]
    exact B_blame (K := D_L_law_1914 (D_L_law_23 f) 1 32 1170 1243 (i : Int)) (N1 := lwN) h hn hi
  rw [if_neg q19]
  by_cases q20 : mand (I 1 i) 31 = 20
  · rw [if_pos q20]
    exact B_needless (K := D_L_law_1914 (D_L_law_23 f) 1 32 1170 1243 (i : Int)) (N1 := lwN) h hn hi
  rw [if_neg q20]
  by_cases q21 : mand (I 1 i) 31 = 21
  · rw [if_pos q21]
    exact B_without (K := D_L_law_1914 (D_L_law_23 f) 1 32 1170 1243 (i : Int)) (N1 := lwN) (N2 := lwN) h hn hi
  rw [if_neg q21]
  by_cases q22 : mand (I 1 i) 31 = 22
  · rw [if_pos q22]
    exact B_pinned (K := D_L_law_1914 (D_L_law_23 f) 1 32 1170 1243 (i : Int)) (N1 := lwN) (N2 := lwN) h hn hi
  rw [if_neg q22]
  by_cases q23 : mand (I 1 i) 31 = 23
  · rw [if_pos q23]
    exact B_doomed (K := D_L_law_1914 (D_L_law_23 f) 1 32 1170 1243 (i : Int)) (N1 := lwN) (N2 := lwN) h hn hi
  rw [if_neg q23]
  by_cases q24 : mand (I 1 i) 31 = 24
  · rw [if_pos q24]
    exact B_phase (K := D_L_law_1914 (D_L_law_23 f) 1 32 1170 1243 (i : Int)) (N1 := lwN) (N2 := lwN) h hn hi
  rw [if_neg q24]
  by_cases q25 : mand (I 1 i) 31 = 25
  · rw [if_pos q25]
    exact B_member (K := D_L_law_1914 (D_L_law_23 f) 1 32 1170 1243 (i : Int)) (N1 := lwN) (N2 := lwN) h hn hi
  rw [if_neg q25]
  by_cases q26 : mand (I 1 i) 31 = 26
  · rw [if_pos q26]
    exact B_trial (K := D_L_law_1914 (D_L_law_23 f) 1 32 1170 1243 (i : Int)) (N1 := lwN) (N2 := lwN) h hn hi
  rw [if_neg q26]
  by_cases q27 : mand (I 1 i) 31 = 27
  · rw [if_pos q27]
    exact B_tried (K := D_L_law_1914 (D_L_law_23 f) 1 32 1170 1243 (i : Int)) (N1 := lwN) (N2 := lwN) h hn hi
  rw [if_neg q27]
  by_cases q28 : mand (I 1 i) 31 = 28
  · rw [if_pos q28]
    exact B_loosened (K := D_L_law_1914 (D_L_law_23 f) 1 32 1170 1243 (i : Int)) (N1 := lwN) h hn hi
  rw [if_neg q28]
  by_cases q29 : mand (I 1 i) 31 = 29
  · rw [if_pos q29]
    exact B_shifted (K := D_L_law_1914 (D_L_law_23 f) 1 32 1170 1243 (i : Int)) (N1 := lwN) h hn hi
  rw [if_neg q29]
  by_cases q30 : mand (I 1 i) 31 = 30
  · rw [if_pos q30]
    exact B_print (K := D_L_law_1914 (D_L_law_23 f) 1 32 1170 1243 (i : Int)) (N1 := lwN) h hn hi
  rw [if_neg q30]
  by_cases q31 : mand (I 1 i) 31 = 31
  · rw [if_pos q31]
    exact B_status (K := D_L_law_1914 (D_L_law_23 f) 1 32 1170 1243 (i : Int)) (N1 := lwN) h hn hi
  rw [if_neg q31]
  exact ⟨s, c, I, W, p, h, cn0, rfl⟩
theorem lw_step {i f : Nat} (h : Inv xs s I W p) (hn : n ≤ 3072) (hi : i + 6 ≤ n) : ∃ s' c' I' W' p', Inv xs s' I' W' p' ∧ cn c c' ∧ D_L_law_23 (f + 1) 1 32 1170 1243 (i : Int) (st true n c I W p) = D_L_law_23 f 1 32 1170 1243 ((i + 6 : Nat) : Int) (st true n c' I' W' p') := by
  have e6 : mw ((i : Int) + 6) = ((i + 6 : Nat) : Int) := by rw [mw_of (by omega) (by omega)]; omega
  obtain ⟨s', c', I', W', p', hI, hc, e⟩ := lw_all (n := n) (c := c) (f := f) h hn hi
  refine ⟨s', c', I', W', p', hI, hc, e.trans ?_⟩
  unfold D_L_law_1914
  rw [e6]
theorem lw_loop (hn : n ≤ 3072) : ∀ (d i f : Nat) (s : Sp) (c : Nat × Nat × Nat × Nat) (I : Nat → Nat → Int) (W : Nat → Nat → BitVec 64) (p : Nat → Nat), n < i + 6 * d + 6 → d < f → i ≤ n → Inv xs s I W p →
    ∃ c' I' W' p', D_L_law_23 f 1 32 1170 1243 (i : Int) (st true n c I W p) = some (Sum.inl (st true n c' I' W' p')) ∧ c'.1 ≤ c.1 + d ∧ c'.2.1 ≤ c.2.1 + 6 * d := by
  intro d
  induction d with
  | zero =>
    intro i f s c I W p hd hf hi h
    obtain ⟨f, rfl⟩ : ∃ g, f = g + 1 := ⟨f - 1, by omega⟩
    refine ⟨c, I, W, p, ?_, by omega, by omega⟩
    refine bdk (s_aLn (by omega)) ?_
    rw [mw_of (by omega) (by omega), if_pos (by omega)]
  | succ d ih =>
    intro i f s c I W p hd hf hi h
    obtain ⟨f, rfl⟩ : ∃ g, f = g + 1 := ⟨f - 1, by omega⟩
    by_cases q : i + 6 ≤ n
    · obtain ⟨s', c', I', W', p', hI, hc, e⟩ := lw_step (n := n) (c := c) (i := i) (f := f) h hn q
      obtain ⟨c2, I2, W2, p2, e2, k1, k2⟩ := ih (i + 6) f s' c' I' W' p' (by omega) (by omega) q hI
      refine ⟨c2, I2, W2, p2, e.trans e2, ?_, ?_⟩
      · have := hc.1; omega
      · have := hc.2; omega
    · refine ⟨c, I, W, p, ?_, by omega, by omega⟩
      refine bdk (s_aLn (by omega)) ?_
      rw [mw_of (by omega) (by omega), if_pos (by omega)]
end LS
/-- the law answers 1, if text agrees -/
theorem law_of (L : Nat) (xs : Nat → Int32) (hL : L ≤ 3072) : ∃ τ, D_L_law 1 (lwS0 L xs) = some (1, τ) ∧ mC τ ≤ 601024 ∧ mZ τ ≤ 7293034 := by
  obtain ⟨I, W, e, hC, hM, hx⟩ := d89_init (L := L) (xs := xs) (Tri T0)
  have hg : Good T0 (fun _ => T0) 0 0 (fun _ => 0) := ⟨WF_T0, by decide, by decide, fun k hk => absurd hk (Nat.not_lt_zero k), fun _ => ⟨(by decide : (0 : Int) ≤ 0), (by decide : (0 : Int) < 256)⟩⟩
  have hI : Inv xs (T0, (fun _ => T0), 0, 0, (fun _ => 0), -1, (fun _ => 0)) I W p0 := ⟨⟨hg, hC⟩, ⟨hg, hM⟩, hx⟩
  obtain ⟨c', I', W', p', e2, k1, k2⟩ := lw_loop (n := L) (xs := xs) hL 512 0 mFU (T0, (fun _ => T0), 0, 0, (fun _ => 0), -1, (fun _ => 0)) (1212, 66655, 1212, 0) I W p0 (by omega) (by unfold mFU; omega) (by omega) hI
  refine ⟨st true L c' I' W' p', ?_, ?_, ?_⟩
  · obtain ⟨s1, a1, e⟩ := bd e
    obtain ⟨_, a2, e⟩ := bd e
    obtain ⟨r2, a3, e⟩ := bd e
    obtain ⟨s3, a4, e⟩ := bd e
    obtain ⟨_, a5, e⟩ := bd e
    obtain ⟨r4, a6, e⟩ := bd e
    obtain ⟨s5, a7, e⟩ := bd e
    have e3 := Option.some.inj e
    have b1 : 32 + mN (lwS0 L xs) = 32 := congrArg (fun z => z.1) e3
    have b2 : 32 + mN r2 = 1170 := congrArg (fun z => z.2.1) e3
    have b3 : 32 + mN r4 = 1243 := congrArg (fun z => z.2.2.1) e3
    have b4 : s5 = st true L (1212, 66655, 1212, 0) I W p0 := congrArg (fun z => z.2.2.2) e3
    unfold D_L_law
    refine bdk a1 (bdk a2 (bdk a3 (bdk a4 (bdk a5 (bdk a6 (bdk a7 ?_))))))
    rw [b1, b2, b3, b4]
    exact bdk e2 (bdk (x := (1 : Int)) rfl rfl)
  · show c'.1 ≤ 601024
    have : c'.1 ≤ 1212 + 512 := k1
    omega
  · show c'.2.1 ≤ 7293034
    have : c'.2.1 ≤ 66655 + 6 * 512 := k2
    omega
