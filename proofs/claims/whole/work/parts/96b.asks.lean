/-! THE PURE PART: the calls that ask shortly, each on both sides as one -/
def cmA : Nat → Int := fun e => if e = 1 then 1 else 0
def cmN : Nat → Int := fun e => if e = 0 then 1 else 0
def cmB : Nat → Int := fun e => if e = 0 then 1 else if e = 1 then 2 else 0
def cmC : Nat → Int := fun e => if e = 0 then 1 else if e = 1 then 2 else if e = 2 then 3 else 0
theorem s_aLn110 {g : Bool} {n : Nat} {c : Nat × Nat × Nat × Nat} {I : Nat → Nat → Int} {W : Nat → Nat → BitVec 64} {p : Nat → Nat} : aLn (st g n c I W p) 110 = some 3 := by
  unfold aLn
  rw [show mH (st g n c I W p) 110 = (51, 3) from (HH_k (n := n) (show HC g 110 = (50 + 1, 3) by cases g <;> decide +kernel))]
  exact if_pos ⟨rfl, by decide⟩
/-- a call of the desk that only answers -/
def o8 (D : mS → Option Int) : mS → Option ((Int ⊕ Nat) × mS) := fun σ => (D σ).bind fun v => some (Sum.inl v, σ)
/-- a call of the desk that refuses nothing -/
def p8 (D : mS → Option (Int × mS)) : mS → Option ((Int ⊕ Nat) × mS) := fun σ => (D σ).bind fun r => some (Sum.inl r.1, r.2)
section AK
variable {n : Nat} {s : Sp}
theorem IC.T {I : Nat → Nat → Int} {W : Nat → Nat → BitVec 64} {p : Nat → Nat} (h : IC s I W p) : ClsT 34 (sT s) I := h.2.1.1
theorem IC.A {I : Nat → Nat → Int} {W : Nat → Nat → BitVec 64} {p : Nat → Nat} (h : IC s I W p) : AgesC (sT s) I := h.2.1.2.1
theorem IC.N {I : Nat → Nat → Int} {W : Nat → Nat → BitVec 64} {p : Nat → Nat} (h : IC s I W p) : NowC (sT s) I W := h.2.1.2.2
theorem IC.w {I : Nat → Nat → Int} {W : Nat → Nat → BitVec 64} {p : Nat → Nat} (h : IC s I W p) : WF (sT s) := h.1.1
theorem IM.w {I : Nat → Nat → Int} (h : IM s I) : WF (sT s) := h.1.1
theorem IM.T {I : Nat → Nat → Int} (h : IM s I) : RefT (sT s) I := h.2.1
theorem IM.F {I : Nat → Nat → Int} (h : IM s I) : RefF (sT s) I := h.2.2.1
theorem IM.k {I : Nat → Nat → Int} (h : IM s I) : I 1170 5 = sN s ∧ I 1170 37 = sL9 s ∧ I 1170 44 = sF s ∧ I 1170 17 = -1 ∧ I 1170 19 = -1 := h.2.2.2.2.1
theorem IC.k {I : Nat → Nat → Int} {W : Nat → Nat → BitVec 64} {p : Nat → Nat} (h : IC s I W p) : I 32 3 = sN s ∧ I 32 5 = sL9 s ∧ I 32 6 = sF s := h.2.2.2.1
theorem a_years {a w : Int} : Agree n (D_X8_years 32 a w) (D_X9_years 1170 a w) cmA s := by
  by_cases q : (0 ≤ a ∧ a ≤ 9999) ∧ 0 ≤ w ∧ w ≤ 2
  · refine ag_v (x := yrsW (sT s) a w) (q8v fun c I W p h => ?_) (q9v fun c I W p h => ⟨zJ I, ?_, AskX_zJ h, zJ0⟩)
    · rw [x8_years h.A, if_pos q]
    · rw [x9_years h.w.1 h.w.2.1 h.T, if_pos q]; rfl
  · refine ag_r (e := 1) (q8r (by decide) fun c I W p h => ?_) (v := 0) (code := 1) (q9r (by decide) fun c I W p h => ⟨zJ I, ?_, AskX_zJ h⟩) rfl (by decide)
    · rw [x8_years h.A, if_neg q]
    · rw [x9_years h.w.1 h.w.2.1 h.T, if_neg q]; rfl
theorem a_age {y : Int} : Agree n (D_X8_age 32 y) (D_X9_age 1170 y) cmN s := by
  by_cases q : 0 ≤ y ∧ y < 1000
  · refine ag_v (x := ageS (sT s) y) (q8v fun c I W p h => ?_) (q9v fun c I W p h => ⟨zJ I, ?_, AskX_zJ h, zJ0⟩)
    · rw [x8_age h.A, if_pos q]
    · rw [x9_age h.w.1 h.w.2.1 h.T, if_pos (by omega)]
  · refine ag_r (e := 0) (q8r (by decide) fun c I W p h => ?_) (v := 0) (code := 1) (q9r (by decide) fun c I W p h => ⟨zJ I, ?_, AskX_zJ h⟩) rfl (by decide)
    · rw [x8_age h.A, if_neg q]
    · rw [x9_age h.w.1 h.w.2.1 h.T, if_neg (by omega)]
theorem a_knot {k w : Int} : Agree n (D_X8_knot 32 k w) (D_X9_knot 1170 k w) cmB s := by
  by_cases q : 0 ≤ k ∧ k < sT s 303
  · by_cases q2 : w = 0 ∨ w = 1
    · refine ag_v (x := if w = 0 then sT s (310 + k.toNat) else sT s (330 + k.toNat)) (q8v fun c I W p h => ?_) (q9v fun c I W p h => ⟨zJ I, ?_, AskX_zJ h, zJ0⟩)
      · rw [x8_knot h.w.1 h.T, if_pos q, if_pos q2]
      · rw [x9_knot h.w.1 h.T, if_pos q, if_pos q2]
    · refine ag_r (e := 1) (q8r (by decide) fun c I W p h => ?_) (v := 0) (code := 2) (q9r (by decide) fun c I W p h => ⟨zJ I, ?_, AskX_zJ h⟩) rfl (by decide)
      · rw [x8_knot h.w.1 h.T, if_pos q, if_neg q2]
      · rw [x9_knot h.w.1 h.T, if_pos q, if_neg q2]
  · refine ag_r (e := 0) (q8r (by decide) fun c I W p h => ?_) (v := 0) (code := 1) (q9r (by decide) fun c I W p h => ⟨zJ I, ?_, AskX_zJ h⟩) rfl (by decide)
    · rw [x8_knot h.w.1 h.T, if_neg q]
    · rw [x9_knot h.w.1 h.T, if_neg q]
theorem a_fault : Agree n (o8 (D_X8_fault 32)) (D_X9_fault 1170) (fun _ => 0) s := by
  refine ag_v (x := sF s) (q8v fun c I W p h => ?_) (q9v fun c I W p h => ⟨zJ I, ?_, AskX_zJ h, zJ0⟩)
  · exact bdk (x8_fault h.k.2.2) rfl
  · rw [x9_fault h.k.2.2.1]
theorem x8_status {g : Bool} {c : Nat × Nat × Nat × Nat} {I : Nat → Nat → Int} {W : Nat → Nat → BitVec 64} {p : Nat → Nat} {k : Int} {rf : Nat → Int} (h : ∀ k, k < 3 → I 110 k = rf k) : D_X8_status 32 k (st g n c I W p) = some (if 0 ≤ k ∧ k ≤ 2 then rf k.toNat else -1) := by
  unfold D_X8_status D_X8_status_22 D_X8_status_23
  by_cases q1 : k < 0
  · rw [if_pos q1, if_neg (by omega)]
  rw [if_neg q1]
  refine bdk z8R7 (bdk s_aLn110 ?_)
  by_cases q2 : 3 ≤ k
  · rw [if_pos q2, if_neg (by omega)]
  rw [if_neg q2, if_pos (by omega)]
  refine bdk z8R7 (bdk (z8L110 (by omega) (by omega)) ?_)
  rw [h _ (by omega)]
theorem a_status {k : Int} : Agree n (o8 (D_X8_status 32 k)) (D_X9_status 1170 k) (fun _ => 0) s := by
  refine ag_v (x := if 0 ≤ k ∧ k ≤ 2 then sX s k.toNat else -1) (q8v fun c I W p h => ?_) (q9v fun c I W p h => ⟨zJ I, ?_, AskX_zJ h, zJ0⟩)
  · exact bdk (x8_status h.2.2.2.2.2.1) rfl
  · rw [x9_status h.2.2.2.2.2.2]
theorem a_told {x : Int} : Agree n (D_X8_told 32 x) (D_X9_told 1170 x) cmA s := by
  by_cases q : 0 ≤ x ∧ x ≤ 11
  · refine ag_v (x := toldS (sT s) (sN s) (sL9 s) x) (q8v fun c I W p h => ?_) (q9v fun c I W p h => ?_)
    · rw [x8_told h.w.1 h.T h.N h.k.1 h.k.2.1, if_pos q]
    · have z := x9_told (n := n) (c := c) (W := W) (p := p) (x := x) h.w h.T h.F h.k.2.2.2.1 h.k.2.2.2.2 h.k.1 h.k.2.1
      rw [if_pos q] at z
      obtain ⟨I', e, hA⟩ := z
      exact ⟨I', e, AskX_M h hA, hA.2.1.2⟩
  · refine ag_r (e := 1) (q8r (by decide) fun c I W p h => ?_) (v := 0) (code := 1) (q9r (by decide) fun c I W p h => ⟨zJ I, ?_, AskX_zJ h⟩) rfl (by decide)
    · rw [x8_told h.w.1 h.T h.N h.k.1 h.k.2.1, if_neg q]
    · have z := x9_told (n := n) (c := c) (W := W) (p := p) (x := x) h.w h.T h.F h.k.2.2.2.1 h.k.2.2.2.2 h.k.1 h.k.2.1
      rw [if_neg q] at z
      exact z
theorem a_rule {r w : Int} : Agree n (D_X8_rule 32 r w) (D_X9_rule 1170 r w) cmB s := by
  by_cases q : 0 ≤ r ∧ r < sT s 2
  · by_cases q2 : 0 ≤ w ∧ w ≤ 5
    · refine ag_v (x := ruleS (sT s) r w) (q8v fun c I W p h => ?_) (q9v fun c I W p h => ?_)
      · rw [x8_rule h.w.1 h.T h.N, if_pos q, if_pos q2]
      · have z := x9_rule (n := n) (c := c) (W := W) (p := p) (r := r) (w := w) h.w h.T h.F h.k.2.2.2.1 h.k.2.2.2.2
        rw [if_pos q, if_pos q2] at z
        obtain ⟨I', e, hA⟩ := z
        rcases hA with ⟨-, hA⟩ | rfl
        · exact ⟨I', e, AskX_M h hA, hA.2.1.2⟩
        · exact ⟨zJ I, e, AskX_zJ h, zJ0⟩
    · refine ag_r (e := 1) (q8r (by decide) fun c I W p h => ?_) (v := 0) (code := 2) (q9r (by decide) fun c I W p h => ⟨zJ I, ?_, AskX_zJ h⟩) rfl (by decide)
      · rw [x8_rule h.w.1 h.T h.N, if_pos q, if_neg q2]
      · have z := x9_rule (n := n) (c := c) (W := W) (p := p) (r := r) (w := w) h.w h.T h.F h.k.2.2.2.1 h.k.2.2.2.2
        rw [if_pos q, if_neg q2] at z
        exact z
  · refine ag_r (e := 0) (q8r (by decide) fun c I W p h => ?_) (v := 0) (code := 1) (q9r (by decide) fun c I W p h => ⟨zJ I, ?_, AskX_zJ h⟩) rfl (by decide)
    · rw [x8_rule h.w.1 h.T h.N, if_neg q]
    · have z := x9_rule (n := n) (c := c) (W := W) (p := p) (r := r) (w := w) h.w h.T h.F h.k.2.2.2.1 h.k.2.2.2.2
      rw [if_neg q] at z
      exact z
theorem a_misfit {k y : Int} : Agree n (D_X8_misfit 32 k y) (D_X9_misfit 1170 k y) cmN s := by
  by_cases q : 0 ≤ k ∧ k < sT s 304
  · by_cases q2 : 0 ≤ y ∧ y < 1000
    · refine ag_v (x := misS (sT s) (sT s 1) k.toNat y.toNat) (q8v fun c I W p h => ?_) (q9v fun c I W p h => ⟨zJ I, ?_, AskX_zJ h, zJ0⟩)
      · rw [x8_misfit h.w h.T h.A, if_pos q, if_pos q2]
      · rw [x9_misfitAsked h.w h.T, if_pos q, if_pos (by omega)]
    · refine ag_r (e := 0) (q8r (by decide) fun c I W p h => ?_) (v := 0) (code := 1) (q9r (by decide) fun c I W p h => ⟨zJ I, ?_, AskX_zJ h⟩) rfl (by decide)
      · rw [x8_misfit h.w h.T h.A, if_pos q, if_neg q2]
      · rw [x9_misfitAsked h.w h.T, if_pos q, if_neg (by omega)]
  · refine ag_r (e := 0) (q8r (by decide) fun c I W p h => ?_) (v := 0) (code := 1) (q9r (by decide) fun c I W p h => ⟨zJ I, ?_, AskX_zJ h⟩) rfl (by decide)
    · rw [x8_misfit h.w h.T h.A, if_neg q]
    · rw [x9_misfitAsked h.w h.T, if_neg q]
theorem a_clash {w : Int} : Agree n (D_X8_clash 32 w) (D_X9_clash 1170 w) cmA s := by
  by_cases q : 0 ≤ w ∧ w ≤ 1
  · refine ag_v (x := clashS (sT s) w) (q8v fun c I W p h => ?_) (q9v fun c I W p h => ?_)
    · rw [x8_clash h.N, if_pos q]
    · have z := x9_clash (n := n) (c := c) (W := W) (p := p) (w := w) h.w h.T h.F h.k.2.2.2.1 h.k.2.2.2.2
      rw [if_pos q] at z
      obtain ⟨I', e, hA⟩ := z
      exact ⟨I', e, AskX_M h hA, hA.2.1.2⟩
  · refine ag_r (e := 1) (q8r (by decide) fun c I W p h => ?_) (v := 0) (code := 1) (q9r (by decide) fun c I W p h => ⟨zJ I, ?_, AskX_zJ h⟩) rfl (by decide)
    · rw [x8_clash h.N, if_neg q]
    · have z := x9_clash (n := n) (c := c) (W := W) (p := p) (w := w) h.w h.T h.F h.k.2.2.2.1 h.k.2.2.2.2
      rw [if_neg q] at z
      exact z
theorem a_interval {t k w : Int} (hk : mIn k) : Agree n (D_X8_interval 32 t k w) (D_X9_interval 1170 t k w) cmB s := by
  by_cases q : 0 ≤ t ∧ t < sT s 304
  · by_cases q1 : ivV (lft (sT s) t.toNat) k < 1000
    · by_cases q2 : 0 ≤ w ∧ w ≤ 1
      · refine ag_v (x := ivW (lft (sT s) t.toNat) (ivV (lft (sT s) t.toNat) k) w) (q8v fun c I W p h => ?_) (q9v fun c I W p h => ?_)
        · rw [x8_interval h.w.1 h.T h.N hk, if_pos q, if_pos q1, if_pos q2]
        · have z := x9_interval (n := n) (c := c) (W := W) (p := p) (s := t) (k := k) (w := w) h.w h.T h.F h.k.2.2.2.1 h.k.2.2.2.2
          rw [if_pos q] at z
          obtain ⟨I', hA, e⟩ := z
          rw [if_pos q1, if_pos q2] at e
          exact ⟨I', e, AskX_M h hA, hA.2.1.2⟩
      · refine ag_r (e := 1) (q8r (by decide) fun c I W p h => ?_) (v := 0) (code := 2) (q9r (by decide) fun c I W p h => ?_) rfl (by decide)
        · rw [x8_interval h.w.1 h.T h.N hk, if_pos q, if_pos q1, if_neg q2]
        · have z := x9_interval (n := n) (c := c) (W := W) (p := p) (s := t) (k := k) (w := w) h.w h.T h.F h.k.2.2.2.1 h.k.2.2.2.2
          rw [if_pos q] at z
          obtain ⟨I', hA, e⟩ := z
          rw [if_pos q1, if_neg q2] at e
          exact ⟨I', e, AskX_M h hA⟩
    · refine ag_r (e := 0) (q8r (by decide) fun c I W p h => ?_) (v := 0) (code := 1) (q9r (by decide) fun c I W p h => ?_) rfl (by decide)
      · rw [x8_interval h.w.1 h.T h.N hk, if_pos q, if_neg q1]
      · have z := x9_interval (n := n) (c := c) (W := W) (p := p) (s := t) (k := k) (w := w) h.w h.T h.F h.k.2.2.2.1 h.k.2.2.2.2
        rw [if_pos q] at z
        obtain ⟨I', hA, e⟩ := z
        rw [if_neg q1] at e
        exact ⟨I', e, AskX_M h hA⟩
  · refine ag_r (e := 0) (q8r (by decide) fun c I W p h => ?_) (v := 0) (code := 1) (q9r (by decide) fun c I W p h => ⟨zJ I, ?_, AskX_zJ h⟩) rfl (by decide)
    · rw [x8_interval h.w.1 h.T h.N hk, if_neg q]
    · have z := x9_interval (n := n) (c := c) (W := W) (p := p) (s := t) (k := k) (w := w) h.w h.T h.F h.k.2.2.2.1 h.k.2.2.2.2
      rw [if_neg q] at z
      exact z
/-- the print: of both sides, on the same store -/
theorem a_print {c : Nat × Nat × Nat × Nat} {I : Nat → Nat → Int} {W : Nat → Nat → BitVec 64} {p : Nat → Nat} (h : IC s I W p) (h9 : IM s I) :
    ∃ v I', D_X8_print 32 (st true n c I W p) = some v ∧ D_X9_print 1170 (st true n c I W p) = some (v, st true n c I' W p) ∧ IM s I' ∧ LO I I' := by
  obtain ⟨I', e, hA⟩ := x9_printAsked (n := n) (c := c) (W := W) (p := p) h9.w h9.T h9.F h9.k.2.2.2.1 h9.k.2.2.2.2
  exact ⟨_, I', x8_printAsked h.w.1 h.T h.N, e, h9.ask (AskX_M h9 hA), LO_ask (AskX_M h9 hA)⟩
end AK
