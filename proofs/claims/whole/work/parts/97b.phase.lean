/-! THE PURE PART: a phase's line, on both sides -/
section PH
variable {n : Nat} {c d : Nat × Nat × Nat × Nat} {I J I' J' : Nat → Nat → Int} {W V : Nat → Nat → BitVec 64} {p r : Nat → Nat} {B : Nat → Int} {L q m ns np nr a b : Nat} {k pl : Int} {vs : Nat → Int}
theorem c_mem37 {x4 : Int} {k : Nat} (hs : np < 4) (hk : I (112 + 42 + 2 * np) 0 = (k : Nat)) (k6 : k ≤ 6) : ∀ (dd i f : Nat) (y : Int), i + dd = k → dd < f → (y = 0 ∨ y = 1) →
    ∃ t : Int, D_X2_readMember_37 f (112 + 42 + 2 * np) x4 y (i : Nat) (st true n c I W p) = some t ∧ (t ≠ 0 ↔ y ≠ 0 ∨ ∃ j, i ≤ j ∧ j < k ∧ I (112 + 42 + 2 * np + 1) j = x4) := by
  intro dd
  induction dd with
  | zero =>
    intro i f y hi hf hy
    obtain ⟨f, rfl⟩ : ∃ g, f = g + 1 := ⟨f - 1, by omega⟩
    refine ⟨y, bdk (t1I TB112 hs) ?_, ⟨Or.inl, fun h => h.elim id (fun ⟨j, j1, j2, _⟩ => absurd j1 (by omega))⟩⟩
    rw [hk, if_pos (by omega)]
  | succ dd ih =>
    intro i f y hi hf hy
    obtain ⟨f, rfl⟩ : ∃ g, f = g + 1 := ⟨f - 1, by omega⟩
    by_cases z : y ≠ 0 ∨ I (112 + 42 + 2 * np + 1) i = x4
    · obtain ⟨t, e, ht⟩ := ih (i + 1) f 1 (by omega) (by omega) (Or.inr rfl)
      refine ⟨t, bdk (t1I TB112 hs) ?_, ⟨fun _ => z.imp id (fun w => ⟨i, Nat.le_refl i, by omega, w⟩), fun _ => ht.2 (Or.inl (by decide))⟩⟩
      rw [hk, if_neg (by omega)]
      unfold D_X2_readMember_63 D_X2_readMember_68
      rw [mw_n (by omega)]
      by_cases y0 : y ≠ 0
      · rw [if_pos y0]; exact e
      · rw [if_neg y0]
        refine bdk (t1R1 TB112 hs) (bdk (s_lI (tHp1 TB112 hs) (by omega) (by omega)) ?_)
        rw [toN, if_neg (fun w => w (z.resolve_left y0))]
        exact e
    · obtain ⟨t, e, ht⟩ := ih (i + 1) f 0 (by omega) (by omega) (Or.inl rfl)
      have y0 : ¬ y ≠ 0 := fun w => z (Or.inl w)
      have x0 : I (112 + 42 + 2 * np + 1) i ≠ x4 := fun w => z (Or.inr w)
      refine ⟨t, bdk (t1I TB112 hs) ?_, ?_⟩
      · rw [hk, if_neg (by omega), if_neg y0]
        refine bdk (t1R1 TB112 hs) (bdk (s_lI (tHp1 TB112 hs) (by omega) (by omega)) ?_)
        rw [toN, if_pos x0]
        unfold D_X2_readMember_68
        rw [mw_n (by omega)]
        exact e
      · rw [ht]
        constructor
        · rintro (w | ⟨j, j1, j2, j3⟩)
          · exact absurd rfl w
          · exact Or.inr ⟨j, by omega, j2, j3⟩
        · rintro (w | ⟨j, j1, j2, j3⟩)
          · exact absurd w y0
          · refine Or.inr ⟨j, ?_, j2, j3⟩
            by_cases e2 : j = i
            · subst e2; exact absurd j3 x0
            · omega
/-- the members read so far -/
def MbR (ns np k : Nat) (vs : Nat → Int) (I J : Nat → Nat → Int) : Prop := ∀ i, i < k → I (112 + 42 + 2 * np + 1) i = J 1227 (6 * np + i) ∧ (0 ≤ I (112 + 42 + 2 * np + 1) i ∧ I (112 + 42 + 2 * np + 1) i < ns) ∧ I (112 + 42 + 2 * np + 1) i = fiN (fun t => I 186 t) (vs (1 + i)) ns 0 ∧ ∀ j, j < i → I (112 + 42 + 2 * np + 1) j ≠ I (112 + 42 + 2 * np + 1) i
theorem t_member {k : Nat} (hB : ∀ k, 0 ≤ B k ∧ B k < 256) (hL : L ≤ 500) (hs : np < 4) (h1 : CX B L a I) (h2 : MX B L a J) (hk : LKs B L a (1 + k) vs J) (hN : NM B ns np nr I J) (hk6 : k < 6) (h0 : I (112 + 42 + 2 * np) 0 = (k : Nat)) (hR : MbR ns np k vs I J) (hq : q ≤ a) :
    ∃ v w I' J' vs', D_X2_readMember 111 (112 + 42 + 2 * np) (vs 0) (st true n c I W p) = some (v, st true n c I' W p) ∧ D_X9_known 1170 0 (st true n d J V r) = some (w, st true n d J' V r) ∧ CC I I' ∧ Fr PNm J J' ∧ N2 B L q (1 + (k + 1)) vs' I' J' ∧ (J' 1170 42 = 0 → v = w ∧ (0 ≤ v ∧ v < ns) ∧ v = fiN (fun t => I 186 t) (vs' (1 + k)) ns 0 ∧ (∀ i, i < 1 + k → vs' i = vs i) ∧ ∀ j, j < k → I (112 + 42 + 2 * np + 1) j ≠ v) := by
  obtain ⟨nmv, I1, e1, c1, h6, f1⟩ := c_name (n := n) (c := c) (W := W) (p := p) hL h1
  obtain ⟨⟨n3, n4, n5, s12, p4, r24⟩, n45, n46, -, nS, nP⟩ := id hN
  have hN1 : ∀ k, k < ns → NmM B J (rowOf 0 k) ((fun k => I 186 k) k) := fun k hk => by unfold rowOf; rw [if_pos rfl]; exact nS k hk
  obtain ⟨w, J', e2, c2, f2⟩ := m_known (n := n) (c := d) (W := V) (p := r) (ph := 0) hB hL (Or.inl rfl) h2 ⟨s12, fun w => absurd rfl w⟩ hN1 (by rw [if_pos rfl]; exact n45) hk (by omega) (Nat.le_refl a)
  have eS := c_numberOf (n := n) (c := c) (I := I1) (W := W) (p := p) (v := nmv) (m := ns) h186 s12 (by decide)
  have cS : (fun k => I1 186 k) = fun k => I 186 k := funext fun k => c1.ne (by decide)
  rw [cS] at eS
  have rng : -1 ≤ fiN (fun k => I 186 k) nmv ns 0 ∧ fiN (fun k => I 186 k) nmv ns 0 < ns := by
    rcases fi_spec (f := fun k => I 186 k) (v := nmv) ns 0 with ⟨w, -⟩ | ⟨j, w, w2, w3, -⟩ <;> omega
  have hfu : 6 < mFU := by unfold mFU; omega
  obtain ⟨t, et, ht⟩ := c_mem37 (n := n) (c := c) (W := W) (p := p) (I := I1) (x4 := fiN (fun k => I 186 k) nmv ns 0) (k := k) hs (by rw [c1.ne (by omega)]; exact h0) (by omega) k 0 mFU (if nmv = vs 0 then 1 else 0) (by omega) (by omega) (by split; exact Or.inr rfl; exact Or.inl rfl)
  have ht2 : t ≠ 0 ↔ nmv = vs 0 ∨ ∃ j, j < k ∧ I (112 + 42 + 2 * np + 1) j = fiN (fun k => I 186 k) nmv ns 0 := by
    rw [ht]
    constructor
    · rintro (w | ⟨j, -, j2, j3⟩)
      · refine Or.inl ?_
        by_cases z : nmv = vs 0
        · exact z
        · rw [if_neg z] at w; exact absurd rfl w
      · exact Or.inr ⟨j, j2, by rw [c1.ne (by omega)] at j3; exact j3⟩
    · rintro (w | ⟨j, j2, j3⟩)
      · exact Or.inl (by rw [if_pos w]; decide)
      · exact Or.inr ⟨j, by omega, j2, by rw [c1.ne (by omega)]; exact j3⟩
  have hm : ∃ I', D_X2_readMember 111 (112 + 42 + 2 * np) (vs 0) (st true n c I W p) = some (fiN (fun k => I 186 k) nmv ns 0, st true n c I' W p) ∧ CC I1 I' ∧ (I1 111 1 = 0 → (t = 0 ∧ fiN (fun k => I 186 k) nmv ns 0 ≠ -1 → I' = I1) ∧ (t ≠ 0 → I' = cfl I1 4 (sk B L a : Nat)) ∧ (t = 0 → fiN (fun k => I 186 k) nmv ns 0 = -1 → I' = cfl I1 5 (sk B L a : Nat))) ∧ (I1 111 1 ≠ 0 → I' = I1) := by
    have pre : ∀ R, D_X2_readMember_32 111 (112 + 42 + 2 * np) (fiN (fun k => I 186 k) nmv ns 0) (if nmv = vs 0 then 1 else 0) (st true n c I1 W p) = R → D_X2_readMember 111 (112 + 42 + 2 * np) (vs 0) (st true n c I W p) = R := by
      intro R hR
      unfold D_X2_readMember
      refine bdk y2T (bdk e1 (bdk y2R10 (bdk y2R0 (bdk (t5I TB112) ?_))))
      rw [c1.ne (by decide), n3]
      refine bdk eS ?_
      by_cases z : nmv = vs 0
      · rw [if_neg (fun w => w z)]
        rw [if_pos z] at hR
        exact hR
      · rw [if_pos z]
        rw [if_neg z] at hR
        exact hR
    unfold D_X2_readMember_32 D_X2_readMember_108 at pre
    by_cases t0 : t = 0
    · by_cases x1 : fiN (fun k => I 186 k) nmv ns 0 = -1
      · by_cases g : I1 111 1 = 0
        · refine ⟨cfl I1 5 (sk B L a : Nat), pre _ (bdk et ?_), CC.fl, fun _ => ⟨fun w => absurd x1 w.2, fun w => absurd t0 w, fun _ _ => rfl⟩, fun w => absurd g w⟩
          rw [if_pos t0, if_neg (fun w => w x1)]
          refine bdk y2I (bdk y2T ?_)
          rw [h6]
          exact bdk (c_fail g) rfl
        · refine ⟨I1, pre _ (bdk et ?_), CC.r, fun w => absurd w g, fun _ => rfl⟩
          rw [if_pos t0, if_neg (fun w => w x1)]
          exact bdk y2I (bdk y2T (bdk (c_failF g) rfl))
      · refine ⟨I1, pre _ (bdk et ?_), CC.r, fun _ => ⟨fun _ => rfl, fun w => absurd t0 w, fun _ w => absurd w x1⟩, fun _ => rfl⟩
        rw [if_pos t0, if_pos x1]
    · by_cases g : I1 111 1 = 0
      · refine ⟨cfl I1 4 (sk B L a : Nat), pre _ (bdk et ?_), CC.fl, fun _ => ⟨fun w => absurd w.1 t0, fun _ => rfl, fun w => absurd w t0⟩, fun w => absurd g w⟩
        rw [if_neg t0]
        refine bdk y2I (bdk y2T ?_)
        rw [h6]
        exact bdk (c_fail g) rfl
      · refine ⟨I1, pre _ (bdk et ?_), CC.r, fun w => absurd w g, fun _ => rfl⟩
        rw [if_neg t0]
        exact bdk y2I (bdk y2T (bdk (c_failF g) rfl))
  obtain ⟨I', e3, c3, g0, g1⟩ := hm
  have key : nmOk B L (sk B L a) → nmv = nv B (sk B L a) (we B L (sk B L a) - sk B L a) → (t ≠ 0 ↔ ∃ i, i < 1 + k ∧ vs i = nv B (sk B L a) (we B L (sk B L a) - sk B L a)) := by
    intro _ hv
    rw [ht2, ← hv]
    constructor
    · rintro (w | ⟨j, j1, j2⟩)
      · exact ⟨0, by omega, w.symm⟩
      · refine ⟨1 + j, by omega, ?_⟩
        have hj := hR j j1
        rcases fi_spec (f := fun k => I 186 k) (v := nmv) ns 0 with ⟨e, -⟩ | ⟨i1, e1, -, -, e2⟩
        · omega
        · rcases fi_spec (f := fun k => I 186 k) (v := vs (1 + j)) ns 0 with ⟨e, -⟩ | ⟨i2, e3, -, -, e4⟩
          · omega
          · have : i1 = i2 := by omega
            rw [← e4, ← this, e2]
    · rintro ⟨i, i1, i2⟩
      by_cases z : i = 0
      · subst z; exact Or.inl i2.symm
      · refine Or.inr ⟨i - 1, by omega, ?_⟩
        have hj := hR (i - 1) (by omega)
        rw [hj.2.2.1, show 1 + (i - 1) = i by omega, i2]
  refine ⟨_, w, I', J', fun i => if i = 1 + k then nv B (sk B L a) (we B L (sk B L a) - sk B L a) else vs i, e3, e2, c1.t c3, c2.mono (fun x y z => by unfold PKn at z; unfold PNm; omega), ?_, ?_⟩
  · rcases f1 with ⟨hok, hv, hcx⟩ | ⟨hno, hcf⟩
    · have g := g0 hcx.2.2.1
      have kk := key hok hv
      rcases f2 with ⟨k1, k2, k3, k4, k5, k6⟩ | ⟨k1, k2, k3, k5⟩ | ⟨k1, k2, k3, k4, k5⟩ | ⟨k1, -⟩
      · have t0 : t = 0 := Decidable.byContradiction fun w => k2 (kk.1 w)
        rw [g.1 ⟨t0, by rw [hv]; exact k3⟩]
        exact Or.inl ⟨_, Nat.le_trans hq (Nat.le_trans sk_ge we_ge), hcx, k5, k6⟩
      · rw [g.2.1 (kk.2 k2)]
        exact Or.inr ⟨_, _, hcx.fl (by decide), k5⟩
      · have t0 : t = 0 := Decidable.byContradiction fun w => k2 (kk.1 w)
        rw [g.2.2 t0 (by rw [hv]; exact k3)]
        exact Or.inr ⟨_, _, hcx.fl (by decide), k5⟩
      · exact absurd hok k1
    · rw [g1 hcf.nz]
      rcases f2 with ⟨k1, -⟩ | ⟨k1, -⟩ | ⟨k1, -⟩ | ⟨-, -, k5⟩
      · exact absurd k1 hno
      · exact absurd k1 hno
      · exact absurd k1 hno
      · exact Or.inr ⟨_, _, hcf, k5⟩
  · intro z
    rcases f2 with ⟨k1, k2, k3, k4, k5, k6⟩ | ⟨-, -, -, k5⟩ | ⟨-, -, -, -, k5⟩ | ⟨-, -, k5⟩
    · rcases f1 with ⟨hok, hv, hcx⟩ | ⟨hno, hcf⟩
      · have kk := key hok hv
        have t0 : t = 0 := Decidable.byContradiction fun w => k2 (kk.1 w)
        have r1 := rng
        rw [← hv] at k3 k4
        refine ⟨k4.symm, by omega, ?_, fun i hi => ?_, fun j hj w => ?_⟩
        · show _ = fiN _ (if 1 + k = 1 + k then _ else _) _ _
          rw [if_pos rfl, ← hv]
        · show (if i = 1 + k then _ else _) = _
          rw [if_neg (by omega)]
        · exact absurd t0 (ht2.2 (Or.inr ⟨j, hj, w⟩))
      · exact absurd k1 hno
    · exact absurd z k5.nz
    · exact absurd z k5.nz
    · exact absurd z k5.nz
def PPc (np : Nat) (x y : Nat) : Prop := (x = 111 ∧ (y = 1 ∨ y = 2 ∨ 5 ≤ y ∧ y ≤ 7)) ∨ (x = 112 + 42 + 2 * np ∧ y = 0) ∨ x = 112 + 42 + 2 * np + 1
def PPm (np : Nat) (x y : Nat) : Prop := PNm x y ∨ (x = 1227 ∧ 6 * np ≤ y ∧ y < 6 * np + 6)
theorem z9S35' {i : Nat} {x : Int} (h : i < 24) : sI (st true n c I W p) 1227 (i : Int) x = some (st true n c (u2 I 1227 i x) W p) := z9S35 (by omega) (by omega)
theorem ph_loop (hB : ∀ k, 0 ≤ B k ∧ B k < 256) (hL : L ≤ 500) (hs : np < 4) : ∀ (dd k f f' : Nat) (I J : Nat → Nat → Int) (vs : Nat → Int) (a : Nat), k + dd = 6 → dd + 1 < f → dd + 1 < f' → CX B L a I → MX B L a J → LKs B L a (1 + k) vs J → q ≤ a → NM B ns np nr I J → I (112 + 42 + 2 * np) 0 = (k : Nat) → MbR ns np k vs I J →
    ∃ I' J' rc rr, D_X2_readPhase_49 f 111 (112 + 42 + 2 * np) (vs 0) (k : Nat) (st true n c I W p) = some rc ∧ D_X9_phaseLine_38 f' 1170 (k : Nat) (st true n d J V r) = some rr ∧ Fr (PPc np) I I' ∧ Fr (PPm np) J J' ∧
      ((∃ (k' : Nat) (vs' : Nat → Int), rc = Sum.inl (st true n c I' W p) ∧ rr = Sum.inl ((k' : Int), st true n d J' V r) ∧ (1 ≤ k' ∧ k' ≤ 6) ∧ S2 B L q I' J' ∧ J' 1170 42 = 0 ∧ I' (112 + 42 + 2 * np) 0 = (k' : Nat) ∧ MbR ns np k' vs' I' J') ∨
       (rc = Sum.inr (Sum.inr (st true n c I' W p)) ∧ rr = Sum.inr (st true n d J' V r) ∧ Bad B L I' J') ∨
       (∃ a : Nat, rc = Sum.inr (Sum.inl (st true n c I' W p)) ∧ rr = Sum.inr (st true n d J' V r) ∧ CX B L a I' ∧ MF B L 3 (a : Nat) J')) := by
  intro dd
  induction dd with
  | zero =>
    intro k f f' I J vs a hk hf hf' hc hm hK hq hN h0 hR
    obtain ⟨f, rfl⟩ : ∃ g, f = g + 1 := ⟨f - 1, by omega⟩
    obtain ⟨f', rfl⟩ : ∃ g, f' = g + 1 := ⟨f' - 1, by omega⟩
    have k6 : k = 6 := by omega
    subst k6
    have ep := c_peek (n := n) (c := c) (W := W) (p := p) hL hc
    have es := m_wordHere (n := n) (c := d) (W := V) (p := r) hB hL hm
    have hc' : CX B L (sk B L a) (u2 I 111 5 (sk B L a : Nat)) := CX.mv hc (sk_le hc.2.2.2.2)
    have hm' : MX B L (sk B L a) (u2 J 1170 39 (sk B L a : Nat)) := MX.mv hm (sk_le hc.2.2.2.2)
    generalize hI1 : u2 I 111 5 (sk B L a : Nat) = I1 at ep hc'
    generalize hJ1 : u2 J 1170 39 (sk B L a : Nat) = J1 at es hm'
    have fI : ∀ x y, x ≠ 111 → I1 x y = I x y := fun x y w => by rw [← hI1, u2_ne _ _ (by omega)]
    have fJ : ∀ x y, x ≠ 1170 → J1 x y = J x y := fun x y w => by rw [← hJ1, u2_ne _ _ (by omega)]
    have fI' : Fr (PPc np) I I1 := fun x y w => by rw [← hI1, u2_ne _ _ (fun t => w (by unfold PPc; omega))]
    have fJ' : Fr (PPm np) J J1 := fun x y w => by rw [← hJ1, u2_ne _ _ (fun t => w (by unfold PPm PNm; omega))]
    have el : ∀ σ, D_X2_isLetter (pk B L (sk B L a)) σ = some (bI (isLt B L (sk B L a))) := fun σ => by rw [c_isLetter, pk_lt2]
    have ec : ∀ rc, (if bI (isLt B L (sk B L a)) ≠ 0 then D_X2_readPhase_80 (D_X2_readPhase_49 f) 111 (112 + 42 + 2 * np) (vs 0) ((6 : Nat) : Int) (st true n c I1 W p) else some (Sum.inl (st true n c I1 W p))) = some rc → D_X2_readPhase_49 (f + 1) 111 (112 + 42 + 2 * np) (vs 0) ((6 : Nat) : Int) (st true n c I W p) = some rc := by
      intro rc h
      show (if 6 < ((6 : Nat) : Int) then _ else _) = _
      rw [if_neg (by decide)]
      refine bdk y2I ?_
      rw [hc.2.2.1, if_neg (by decide), if_neg (by decide)]
      exact bdk y2T (bdk ep (bdk (el _) h))
    have em : ∀ rr, (if bI (isLt B L (sk B L a)) = 0 then some (Sum.inl (((6 : Nat) : Int), st true n d J1 V r)) else D_X9_phaseLine_49 (D_X9_phaseLine_38 f') 1170 ((6 : Nat) : Int) (st true n d J1 V r)) = some rr → D_X9_phaseLine_38 (f' + 1) 1170 ((6 : Nat) : Int) (st true n d J V r) = some rr := by
      intro rr h
      show (if ((6 : Nat) : Int) = 0 then _ else _) = _
      rw [if_neg (by decide)]
      exact bdk z9T (bdk es h)
    cases hl : isLt B L (sk B L a) with
    | false =>
      rw [hl] at ec em
      refine ⟨I1, J1, _, _, ec _ (if_neg (by decide)), em _ (if_pos rfl), fI', fJ', Or.inl ⟨6, vs, rfl, rfl, by omega, Or.inl ⟨_, _, by rw [sk_sk]; exact Nat.le_trans hq sk_ge, rfl, hc', hm'⟩, hm'.2, by rw [fI _ _ (by omega)]; exact h0, fun i hi => ?_⟩⟩
      have e : (fun t => I1 186 t) = fun t => I 186 t := funext fun t => fI _ _ (by decide)
      rw [e, fI _ _ (by omega), fJ _ _ (by omega)]
      have := hR i hi
      exact ⟨this.1, this.2.1, this.2.2.1, fun j hj => by rw [fI _ _ (by omega)]; exact this.2.2.2 j hj⟩
    | true =>
      rw [hl] at ec em
      have hf := hm'.wr (k := 3) (pl := (sk B L a : Nat)) (by decide)
      obtain ⟨J2, e2, c2, f2⟩ := m_knownF (n := n) (c := d) (W := V) (p := r) (ph := 0) hB hL hf
      refine ⟨I1, J2, _, _, ec _ ?_, em _ ?_, fI', Fr.trans' fJ' (Fr.trans' (fun x y w => MC.w _ _ (fun t => w (by unfold PPm PNm; omega))) (fun x y w => c2 _ _ (fun t => w (by unfold PPm PNm; omega)))), Or.inr (Or.inr ⟨sk B L a, rfl, rfl, hc', f2⟩)⟩
      · show (if (1 : Int) ≠ 0 then _ else _) = _
        rw [if_pos (by decide)]
        unfold D_X2_readPhase_80
        rw [if_neg (by decide)]
      · show (if (1 : Int) = 0 then _ else _) = _
        rw [if_neg (by decide)]
        unfold D_X9_phaseLine_49 D_X9_phaseLine_64
        rw [if_neg (by decide)]
        refine bdk z9I ?_
        rw [hm'.1.2.2.1]
        refine bdk z9T (bdk (m_wrong hm'.2) (bdk z9T (bdk e2 (bdk z9I ?_))))
        rw [f2.2.1.1, if_neg (by omega)]
  | succ dd ih =>
    intro k f f' I J vs a hk hf hf' hc hm hK hq hN h0 hR
    obtain ⟨f, rfl⟩ : ∃ g, f = g + 1 := ⟨f - 1, by omega⟩
    obtain ⟨f', rfl⟩ : ∃ g, f' = g + 1 := ⟨f' - 1, by omega⟩
    -- the step, from a state where a member is to be read
    have step : ∀ (I1 J1 : Nat → Nat → Int) (a1 : Nat), CX B L a1 I1 → MX B L a1 J1 → LKs B L a1 (1 + k) vs J1 → q ≤ a1 → (∀ x y, x ≠ 111 → I1 x y = I x y) → (∀ x y, x ≠ 1170 ∨ 44 ≤ y → J1 x y = J x y) → Fr (PPc np) I I1 → Fr (PPm np) J J1 →
        ∃ I' J' rc rr, D_X2_readPhase_80 (D_X2_readPhase_49 f) 111 (112 + 42 + 2 * np) (vs 0) (k : Nat) (st true n c I1 W p) = some rc ∧ D_X9_phaseLine_49 (D_X9_phaseLine_38 f') 1170 (k : Nat) (st true n d J1 V r) = some rr ∧ Fr (PPc np) I I' ∧ Fr (PPm np) J J' ∧
      ((∃ (k' : Nat) (vs' : Nat → Int), rc = Sum.inl (st true n c I' W p) ∧ rr = Sum.inl ((k' : Int), st true n d J' V r) ∧ (1 ≤ k' ∧ k' ≤ 6) ∧ S2 B L q I' J' ∧ J' 1170 42 = 0 ∧ I' (112 + 42 + 2 * np) 0 = (k' : Nat) ∧ MbR ns np k' vs' I' J') ∨
       (rc = Sum.inr (Sum.inr (st true n c I' W p)) ∧ rr = Sum.inr (st true n d J' V r) ∧ Bad B L I' J') ∨
       (∃ a : Nat, rc = Sum.inr (Sum.inl (st true n c I' W p)) ∧ rr = Sum.inr (st true n d J' V r) ∧ CX B L a I' ∧ MF B L 3 (a : Nat) J')) := by
      intro I1 J1 a1 hc1 hm1 hK1 hq1 fI fJ gI1 gJ1
      have hN1 : NM B ns np nr I1 J1 := hN.fr (fun _ => fI _ _ (by decide)) (fun _ => fI _ _ (by decide)) (fun _ => fI _ _ (by decide)) (fJ _ _ (by omega)) (fJ _ _ (by omega)) (fun _ => fJ _ _ (by omega))
      have e186 : (fun t => I1 186 t) = fun t => I 186 t := funext fun t => fI _ _ (by decide)
      have hR1 : MbR ns np k vs I1 J1 := fun i hi => by
        rw [e186, fI _ _ (by omega), fJ _ _ (by omega)]
        have := hR i hi
        exact ⟨this.1, this.2.1, this.2.2.1, fun j hj => by rw [fI _ _ (by omega)]; exact this.2.2.2 j hj⟩
      obtain ⟨v, w, I2, J2, vs2, a1', a2', a3', a4', a5', a6'⟩ := t_member (n := n) (c := c) (d := d) (W := W) (V := V) (p := p) (r := r) (k := k) hB hL hs hc1 hm1 hK1 hN1 (by omega) (by rw [fI _ _ (by omega)]; exact h0) hR1 hq1
      generalize hI3 : u2 (u2 I2 (112 + 42 + 2 * np + 1) k v) (112 + 42 + 2 * np) 0 ((k + 1 : Nat) : Int) = I3
      have i3 : ∀ x y, ¬ (x = 112 + 42 + 2 * np + 1 ∧ y = k) → ¬ (x = 112 + 42 + 2 * np ∧ y = 0) → I3 x y = I2 x y := fun x y q1 q2 => by rw [← hI3, u2_ne _ _ q2, u2_ne _ _ q1]
      have fI3 : Fr (PPc np) I I3 := Fr.trans' gI1 (fun x y q => by
        unfold PPc at q
        rw [i3 _ _ (by omega) (by omega), a3' _ _ (by omega)])
      have fJ2 : Fr (PPm np) J J2 := Fr.trans' gJ1 (fun x y q => a4' _ _ (fun t => q (Or.inl t)))
      have e80 : ∀ rc, D_X2_readPhase_49 f 111 (112 + 42 + 2 * np) (vs 0) ((k + 1 : Nat) : Int) (st true n c I3 W p) = some rc → D_X2_readPhase_80 (D_X2_readPhase_49 f) 111 (112 + 42 + 2 * np) (vs 0) (k : Nat) (st true n c I1 W p) = some rc := by
        intro rc h
        unfold D_X2_readPhase_80
        rw [if_pos (by omega)]
        refine bdk (t1R1 TB112 hs) (bdk y2T (bdk a1' (bdk (s_sI (tHp1 TB112 hs) (by omega) (by omega)) ?_)))
        rw [toN, mw_n (by omega)]
        refine bdk (t1P TB112 hs) ?_
        rw [hI3]
        exact h
      have e64 : ∀ rr, (if J2 1170 42 ≤ 0 then (gR (st true n d J2 V r) 1170 8 35).bind fun v3 => (gI (st true n d J2 V r) 1170 8 46).bind fun v4 => (sI (st true n d J2 V r) v3 (mw ((mw (6 * v4)) + (k : Nat))) w).bind fun s5 => D_X9_phaseLine_38 f' 1170 (mw ((k : Nat) + 1)) s5 else some (Sum.inr (st true n d J2 V r))) = some rr → D_X9_phaseLine_49 (D_X9_phaseLine_38 f') 1170 (k : Nat) (st true n d J1 V r) = some rr := by
        intro rr h
        unfold D_X9_phaseLine_49 D_X9_phaseLine_64
        rw [if_pos (by omega)]
        exact bdk z9T (bdk a2' (bdk z9I h))
      by_cases z : J2 1170 42 = 0
      · obtain ⟨rfl, q1, q2, q3, q4⟩ := a6' z
        have j46 : J2 1170 46 = (np : Nat) := by rw [a4' _ _ (by unfold PNm; omega)]; exact hN1.2.2.1
        rcases a5' with ⟨a2, ha2, hc2, hm2, hK2⟩ | hb
        · generalize hJ3 : u2 J2 1227 (6 * np + k) v = J3
          have j3 : ∀ x y, x ≠ 1227 → J3 x y = J2 x y := fun x y w => by rw [← hJ3, u2_ne _ _ (by omega)]
          have hm3 : MX B L a2 J3 := hm2.fr (fun x y w => j3 _ _ (by omega))
          have hc3 : CX B L a2 I3 := hc2.fr (fun x y w => i3 _ _ (by omega) (by omega))
          have hK3 : LKs B L a2 (1 + (k + 1)) vs2 J3 := hK2.fr (j3 _ _ (by omega)) (fun k hk => j3 _ _ (by omega)) (Nat.le_refl _)
          have hN3 : NM B ns np nr I3 J3 := (hN1.cc a3' a4').fr (fun _ => i3 _ _ (by omega) (by omega)) (fun _ => i3 _ _ (by omega) (by omega)) (fun _ => i3 _ _ (by omega) (by omega)) (j3 _ _ (by omega)) (j3 _ _ (by omega)) (fun _ => j3 _ _ (by omega))
          have e0 : vs2 0 = vs 0 := q3 0 (by omega)
          have e186' : (fun t => I3 186 t) = fun t => I1 186 t := funext fun t => by rw [i3 _ _ (by omega) (by omega), a3'.ne (by omega)]
          have hR3 : MbR ns np (k + 1) vs2 I3 J3 := fun i hi => by
            have eo : ∀ j, j < k → I3 (112 + 42 + 2 * np + 1) j = I1 (112 + 42 + 2 * np + 1) j := fun j hj => by rw [i3 _ _ (by omega) (by omega), a3'.ne (by omega)]
            have en : I3 (112 + 42 + 2 * np + 1) k = v := by rw [← hI3, u2_ne _ _ (by omega)]; exact u2_eq ..
            rw [e186']
            by_cases e : i = k
            · subst e
              rw [en]
              refine ⟨by rw [← hJ3]; exact (u2_eq ..).symm, q1, q2, fun j hj => ?_⟩
              rw [eo j hj]
              exact q4 j hj
            · have hi2 : i < k := by omega
              have := hR1 i hi2
              rw [eo i hi2, ← hJ3, u2_ne _ _ (by omega), a4' _ _ (by unfold PNm; omega), q3 (1 + i) (by omega)]
              exact ⟨this.1, this.2.1, this.2.2.1, fun j hj => by rw [eo j (by omega)]; exact this.2.2.2 j hj⟩
          obtain ⟨I4, J4, rc, rr, y1, y2, y3, y4, y5⟩ := ih (k + 1) f f' I3 J3 vs2 a2 (by omega) (by omega) (by omega) hc3 hm3 hK3 ha2 hN3 (by rw [← hI3]; exact u2_eq ..) hR3
          rw [e0] at y1
          refine ⟨I4, J4, rc, rr, e80 _ y1, e64 _ ?_, Fr.trans' fI3 y3, Fr.trans' (Fr.trans' fJ2 (fun x y w => by rw [← hJ3, u2_ne _ _ (fun t => w (by unfold PPm; omega))])) y4, y5⟩
          rw [z, if_pos (by decide)]
          refine bdk z9R35 (bdk z9I ?_)
          rw [j46, mw_n (by omega), show mw (mw (6 * (np : Int)) + (k : Nat)) = ((6 * np + k : Nat) : Int) by rw [mw_of (x := 6 * (np : Int)) (by omega) (by omega), mw_of (by omega) (by omega)]; omega]
          refine bdk (z9S35' (by omega)) ?_
          rw [hJ3]
          exact y2
        · exact absurd z hb.nz
      · have hb : Bad B L I3 J2 := (a5'.s.bad z).fr (fun x y w => i3 _ _ (by omega) (by omega)) (fun _ _ _ => rfl)
        obtain ⟨f, rfl⟩ : ∃ g, f = g + 1 := ⟨f - 1, by omega⟩
        refine ⟨I3, J2, _, _, e80 _ ?_, e64 _ ?_, fI3, fJ2, Or.inr (Or.inl ⟨rfl, rfl, hb⟩)⟩
        · show (if 6 < ((k + 1 : Nat) : Int) then _ else _) = _
          rw [if_neg (by omega)]
          refine bdk y2I ?_
          obtain ⟨k0, pl, hcf, -⟩ := hb
          rw [if_pos hcf.nz]
        · obtain ⟨k0, pl, -, -, ⟨t1, t2⟩, -⟩ := hb
          rw [if_neg (by omega)]
    by_cases k0 : k = 0
    · subst k0
      obtain ⟨I', J', rc, rr, y1, y2, y3⟩ := step I J a hc hm hK hq (fun _ _ _ => rfl) (fun _ _ _ => rfl) Fr.rfl' Fr.rfl'
      refine ⟨I', J', rc, rr, ?_, ?_, y3⟩
      · show (if 6 < ((0 : Nat) : Int) then _ else _) = _
        rw [if_neg (by decide)]
        refine bdk y2I ?_
        rw [hc.2.2.1, if_neg (by decide), if_pos (by decide)]
        exact y1
      · show (if ((0 : Nat) : Int) = 0 then _ else _) = _
        rw [if_pos (show ((0 : Nat) : Int) = 0 from rfl)]
        exact y2
    · have ep := c_peek (n := n) (c := c) (W := W) (p := p) hL hc
      have es := m_wordHere (n := n) (c := d) (W := V) (p := r) hB hL hm
      have hc' : CX B L (sk B L a) (u2 I 111 5 (sk B L a : Nat)) := CX.mv hc (sk_le hc.2.2.2.2)
      have hm' : MX B L (sk B L a) (u2 J 1170 39 (sk B L a : Nat)) := MX.mv hm (sk_le hc.2.2.2.2)
      have hK' : LKs B L (sk B L a) (1 + k) vs (u2 J 1170 39 (sk B L a : Nat)) := hK.fr (u2_ne _ _ (by omega)) (fun k hk => u2_ne _ _ (by omega)) sk_ge
      generalize hI1 : u2 I 111 5 (sk B L a : Nat) = I1 at ep hc'
      generalize hJ1 : u2 J 1170 39 (sk B L a : Nat) = J1 at es hm' hK'
      have fI : ∀ x y, x ≠ 111 → I1 x y = I x y := fun x y w => by rw [← hI1, u2_ne _ _ (by omega)]
      have fJ : ∀ x y, x ≠ 1170 ∨ 44 ≤ y → J1 x y = J x y := fun x y w => by rw [← hJ1, u2_ne _ _ (by omega)]
      have fI' : Fr (PPc np) I I1 := fun x y w => by rw [← hI1, u2_ne _ _ (fun t => w (by unfold PPc; omega))]
      have fJ' : Fr (PPm np) J J1 := fun x y w => by rw [← hJ1, u2_ne _ _ (fun t => w (by unfold PPm PNm; omega))]
      have el : ∀ σ, D_X2_isLetter (pk B L (sk B L a)) σ = some (bI (isLt B L (sk B L a))) := fun σ => by rw [c_isLetter, pk_lt2]
      have ec : ∀ rc, (if bI (isLt B L (sk B L a)) ≠ 0 then D_X2_readPhase_80 (D_X2_readPhase_49 f) 111 (112 + 42 + 2 * np) (vs 0) (k : Nat) (st true n c I1 W p) else some (Sum.inl (st true n c I1 W p))) = some rc → D_X2_readPhase_49 (f + 1) 111 (112 + 42 + 2 * np) (vs 0) (k : Nat) (st true n c I W p) = some rc := by
        intro rc h
        show (if 6 < ((k : Nat) : Int) then _ else _) = _
        rw [if_neg (by omega)]
        refine bdk y2I ?_
        rw [hc.2.2.1, if_neg (by decide), if_neg (by omega)]
        exact bdk y2T (bdk ep (bdk (el _) h))
      have em : ∀ rr, (if bI (isLt B L (sk B L a)) = 0 then some (Sum.inl (((k : Nat) : Int), st true n d J1 V r)) else D_X9_phaseLine_49 (D_X9_phaseLine_38 f') 1170 (k : Nat) (st true n d J1 V r)) = some rr → D_X9_phaseLine_38 (f' + 1) 1170 (k : Nat) (st true n d J V r) = some rr := by
        intro rr h
        show (if ((k : Nat) : Int) = 0 then _ else _) = _
        rw [if_neg (by omega)]
        exact bdk z9T (bdk es h)
      cases hl : isLt B L (sk B L a) with
      | false =>
        rw [hl] at ec em
        refine ⟨I1, J1, _, _, ec _ (if_neg (by decide)), em _ (if_pos rfl), fI', fJ', Or.inl ⟨k, vs, rfl, rfl, by omega, Or.inl ⟨_, _, by rw [sk_sk]; exact Nat.le_trans hq sk_ge, rfl, hc', hm'⟩, hm'.2, by rw [fI _ _ (by omega)]; exact h0, fun i hi => ?_⟩⟩
        have e : (fun t => I1 186 t) = fun t => I 186 t := funext fun t => fI _ _ (by decide)
        rw [e, fI _ _ (by omega), fJ _ _ (by omega)]
        have := hR i hi
        exact ⟨this.1, this.2.1, this.2.2.1, fun j hj => by rw [fI _ _ (by omega)]; exact this.2.2.2 j hj⟩
      | true =>
        rw [hl] at ec em
        obtain ⟨I', J', rc, rr, y1, y2, y3⟩ := step I1 J1 (sk B L a) hc' hm' hK' (Nat.le_trans hq sk_ge) fI fJ fI' fJ'
        exact ⟨I', J', rc, rr, ec _ ((if_pos (by decide)).trans y1), em _ ((if_neg (by decide)).trans y2), y3⟩
end PH
