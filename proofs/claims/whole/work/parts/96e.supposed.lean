/-! THE PURE PART: what is supposed, on the desk and of the reference -/
/-- the desk's narrowing of what is supposed alone has changed -/
def Sup (I I' : Nat → Nat → Int) (W W' : Nat → Nat → BitVec 64) : Prop := (∀ b k, ¬ (221 ≤ b ∧ b < 254) → I' b k = I b k) ∧ (∀ b, ¬ (221 ≤ b ∧ b < 254) → W' b = W b) ∧ ∀ t, t < 12 → ∀ y, 1000 ≤ y → y < 1024 → wb (W' (221 + 2 + t)) y = false
theorem Sup.hi {I I' : Nat → Nat → Int} {W W' : Nat → Nat → BitVec 64} (h : Sup I I' W W') : HI I I' W W' := ⟨fun b k q => h.1 b k (by omega), fun b q => h.2.1 b (by omega)⟩
theorem IC.sup {s : Sp} {I I' : Nat → Nat → Int} {W W' : Nat → Nat → BitVec 64} {p : Nat → Nat} (h : IC s I W p) (hs : Sup I I' W W') : IC s I' W' p := by
  obtain ⟨hI, hW, hC⟩ := hs
  obtain ⟨hg, ⟨a1, a2, a3⟩, ⟨b1, b2, b3⟩, c1, d1, e1, f1, g1⟩ := h
  have hw := hg.1
  have hn := hw.1
  have hn' := hn
  unfold WFn at hn'
  have fT : ∀ T b, WFn T → (b + 74 ≤ 221 ∨ 254 ≤ b) → ClsT b T I → ClsT b T I' := fun T b hT hb h => h.fr (P := fun x _ => 221 ≤ x ∧ x < 254) hT (fun x k q => hI x k q) (fun a k q => by omega)
  refine ⟨hg, ⟨fT _ _ hn (by omega) a1, fun y hy => by rw [hI _ _ (by omega)]; exact a2 y hy, ?_⟩, ⟨b1, b2, fun k hk => ?_⟩, ?_, fun k hk => ?_, fun k hk => ?_, hC, ?_⟩
  · obtain ⟨n1, ⟨m1, ⟨k1, k2, k3, k4, k5, k6⟩, m3⟩, n3⟩ := a3
    have s12 : nSa (sT s) ≤ 12 := by unfold nSa; omega
    refine ⟨fun t ht y hy => by rw [hW _ (by omega)]; exact n1 t ht y hy, ⟨fT _ _ hn (by omega) m1, ⟨fun t ht y hy => by rw [hW _ (by omega)]; exact k1 t ht y hy, fun t ht => ?_, fun r hr => ?_, ?_, ?_, ?_⟩, m3⟩, ?_⟩
    · rw [hI _ _ (by omega), hI _ _ (by omega), hI _ _ (by omega)]; exact k2 t ht
    · rw [hI _ _ (by omega)]; exact k3 r hr
    · rw [hI _ _ (by omega)]; exact k4
    · rw [hI _ _ (by omega)]; exact k5
    · rw [hI _ _ (by omega)]; exact k6
    · rw [hI _ _ (by omega)]; exact n3
  · have k12 : k < 12 := by have := hg.2.1; have hk2 : k < sN s := hk; omega
    obtain ⟨j, j1, j2⟩ := b1 k k12
    exact fT _ _ (hg.2.2.2.1 k hk).1.1 (by omega) (b3 k hk)
  · rw [hI _ _ (by omega), hI _ _ (by omega), hI _ _ (by omega)]; exact c1
  · rw [hI _ _ (by omega)]; exact d1 k hk
  · rw [hI _ _ (by omega)]; exact e1 k hk
  · rcases g1 with g1 | ⟨g1, g2, g3, g4⟩
    · exact Or.inl (by rw [hI _ _ (by omega)]; exact g1)
    · exact Or.inr ⟨by rw [hI _ _ (by omega)]; exact g1, by rw [hI _ _ (by omega)]; exact g2, by rw [hI _ _ (by omega)]; exact g3, fun q j hj => by rw [hI _ _ (by omega)]; exact g4 q j hj⟩
theorem IC.c {s : Sp} {I : Nat → Nat → Int} {W : Nat → Nat → BitVec 64} {p : Nat → Nat} (h : IC s I W p) : ∀ t, t < 12 → ∀ y, 1000 ≤ y → y < 1024 → wb (W (221 + 2 + t)) y = false := h.2.2.2.2.2.2.1
section SQ
variable {g : Bool} {n : Nat} {c : Nat × Nat × Nat × Nat} {I : Nat → Nat → Int} {W : Nat → Nat → BitVec 64} {p : Nat → Nat} {s : Sp}
/-- the rows that are laid keep the ends clean -/
theorem clean_rows {m : Nat} {F : Nat → Nat → Bool} {W' : Nat → Nat → BitVec 64} (hc : ∀ t, t < 12 → ∀ y, 1000 ≤ y → y < 1024 → wb (W (221 + 2 + t)) y = false) (hF : FirstC 221 m F W') (hW : ∀ x, ¬ (223 ≤ x ∧ x < 223 + m) → W' x = W x) : ∀ t, t < 12 → ∀ y, 1000 ≤ y → y < 1024 → wb (W' (221 + 2 + t)) y = false := by
  intro t ht y h1 h2
  by_cases q : t < m
  · rw [hF t q y h2, decide_eq_false (by omega), Bool.false_and]
  · rw [hW _ (by omega)]
    exact hc t ht y h1 h2
theorem m12 (h : IC s I W p) : nSa (sT s) ≤ 12 := by
  have hn' := h.w.1
  unfold WFn at hn'
  unfold nSa
  omega
theorem q_take (h : IC s I W p) : ∃ W', D_X0_takeFirst 221 188 (st g n c I W p) = some (st g n c I W' p) ∧ IC s I W' p ∧ HI I I W W' ∧ FirstC 221 (nSa (sT s)) (FS (sT s)) W' := by
  have hm := m12 h
  obtain ⟨W', e, f, w⟩ := x0_takeFirst (g := g) (n := n) (c := c) (p := p) h.w.1 h.T h.N.1
  have hs : Sup I I W W' := ⟨fun _ _ _ => rfl, fun b q => w b (by omega), clean_rows h.c f w⟩
  exact ⟨W', e, h.sup hs, hs.hi, f⟩
theorem q_spans (h : IC s I W p) : ∃ W', D_X0_takeSpans 221 188 (st g n c I W p) = some (st g n c I W' p) ∧ IC s I W' p ∧ HI I I W W' ∧ FirstC 221 (nSa (sT s)) (lft (sT s)) W' := by
  have hm := m12 h
  obtain ⟨W', e, f, w⟩ := x0_takeSpans (g := g) (n := n) (c := c) (p := p) (F := lft (sT s)) h.w.1 h.T (fun t ht => h.N.row ht)
  have hs : Sup I I W W' := ⟨fun _ _ _ => rfl, fun b q => w b (by omega), clean_rows h.c f w⟩
  exact ⟨W', e, h.sup hs, hs.hi, f⟩
theorem q_open (h : IC s I W p) : ∃ W', D_X0_openAll 221 (st g n c I W p) = some (st g n c I W' p) ∧ IC s I W' p ∧ HI I I W W' ∧ FirstC 221 (nSa (sT s)) (fun _ _ => true) W' := by
  have hm := m12 h
  obtain ⟨W', e, f, w⟩ := x0_openAll (g := g) (n := n) (c := c) (p := p) h.w.1 h.T h.c
  have hs : Sup I I W W' := ⟨fun _ _ _ => rfl, fun b q => w b (by omega), clean_rows h.c f w⟩
  exact ⟨W', e, h.sup hs, hs.hi, f⟩
theorem q_first {sg rv : Int} (h : IC s I W p) (hsg : 1 ≤ sg ∧ sg ≤ 3) (hrv : -500 ≤ rv ∧ rv ≤ 500) : ∃ I' W', D_X0_layFirst 221 sg rv (st g n c I W p) = some (st g n c I' W' p) ∧ IC s I' W' p ∧ HI I I' W W' ∧ FirstC 221 (nSa (sT s)) (fun t y => firstS (sT s) sg rv t y) W' := by
  have hm := m12 h
  obtain ⟨I', W', e, f, w, g1⟩ := x0_layFirstS (g := g) (n := n) (c := c) (p := p) nb221 h.w h.T h.A hsg hrv
  have hs : Sup I I' W W' := ⟨fun b k q => g1 b k (by omega), fun b q => w b (by omega), clean_rows h.c f w⟩
  exact ⟨I', W', e, h.sup hs, hs.hi, f⟩
theorem q_pin {t y : Nat} {F F' : Nat → Nat → Bool} (h : IC s I W p) (ht : t < nSa (sT s)) (hy : y < 1000) (hF : ∀ j, j < nSa (sT s) → j ≠ t → ∀ z, z < 1024 → wb (W (221 + 2 + j)) z = (decide (z < 1000) && F j z)) (h1 : ∀ z, z < 1000 → F' t z = decide (z = y)) (h2 : ∀ j, j ≠ t → ∀ z, z < 1000 → F' j z = F j z) :
    ∃ W', D_X0_pin 221 (t : Int) (y : Int) (st g n c I W p) = some (st g n c I W' p) ∧ IC s I W' p ∧ HI I I W W' ∧ FirstC 221 (nSa (sT s)) F' W' := by
  have hm := m12 h
  obtain ⟨W', e, f, w⟩ := x0_pin (g := g) (n := n) (c := c) (I := I) (W := W) (p := p) (s := t) (y := y) (by omega) hy
  have hF' : FirstC 221 (nSa (sT s)) F' W' := by
    intro j hj z hz
    by_cases q : j = t
    · subst q
      rw [f z hz]
      by_cases q2 : z < 1000
      · rw [h1 z q2, decide_eq_true q2, Bool.true_and]
      · rw [decide_eq_false q2, Bool.false_and, decide_eq_false (by omega)]
    · rw [w _ (by omega), hF j hj q z hz]
      by_cases q2 : z < 1000
      · rw [h2 j q z q2]
      · rw [decide_eq_false q2, Bool.false_and, Bool.false_and]
  have hs : Sup I I W W' := ⟨fun _ _ _ => rfl, fun b q => w b (by omega), fun j hj z z1 z2 => by
    by_cases q : j = t
    · subst q
      rw [f z z2, decide_eq_false (by omega)]
    · rw [w _ (by omega)]
      exact h.c j hj z z1 z2⟩
  exact ⟨W', e, h.sup hs, hs.hi, hF'⟩
/-- a run of what is supposed -/
theorem q_run {F : Nat → Nat → Bool} {sk u : Int} (h : IC s I W p) (hF : FirstC 221 (nSa (sT s)) F W) (hu : u = 0 ∨ u = 1) :
    ∃ I' W', D_X0_run 221 sk u (st g n c I W p) = some (st g n c I' W' p) ∧ IC s I' W' p ∧ HI I I' W W' ∧ (∀ b, ¬ PW 221 b → W' b = W b) ∧ (I' 221 10 = -2 ↔ nCs (runS (sT s) sk F).1 = -2) ∧ (u = 0 → RNC 221 (sT s) (runS (sT s) sk F).1 I' W' ∧ I' 221 8 = ((runS (sT s) sk F).2 : Nat)) := by
  obtain ⟨I', W', e, hr, f, w, -⟩ := x0_run (g := g) (n := n) (c := c) (p := p) (skip := sk) (u := u) nb221 h.w hu h.T hF
  have hs : Sup I I' W W' := ⟨fun b k q => f b k (by unfold PR PC; omega), fun b q => w b (by unfold PW; omega), fun t ht y h1 h2 => by rw [w _ (by unfold PW; omega)]; exact h.c t ht y h1 h2⟩
  refine ⟨I', W', e, h.sup hs, hs.hi, w, ?_, fun u0 => ?_⟩
  · rcases hr with ⟨hN, -⟩ | ⟨-, h1, h2⟩
    · rw [hN.2.1.2.2.2.2.1]
    · exact ⟨fun q => absurd q h1, fun q => absurd q h2⟩
  · rcases hr with hr | ⟨h1, -⟩
    · exact hr
    · omega
theorem q_clash : D_X0_hasClash 221 (st g n c I W p) = some (if I 221 10 = -2 then 0 else 1) := x0_hasClash nb221
/-- the answer of what is supposed -/
def supS (T : Td) (R : NS × Nat) (x : Int) : Int := if x = 0 then (tot (nSa T) R.1 : Nat) else if x = 1 then (empN (nS R.1) (nSa T) : Nat) else (R.2 : Nat)
theorem q_of {x : Int} {R : NS × Nat} (h : IC s I W p) (hN : RNC 221 (sT s) R.1 I W) (h8 : I 221 8 = (R.2 : Nat)) : D_X8_ofSupposed 32 x (st g n c I W p) = some (supS (sT s) R x) := by
  unfold D_X8_ofSupposed D_X8_ofSupposed_36 supS
  by_cases c0 : x = 0
  · rw [if_neg (fun w => w c0), if_pos c0]
    exact bdk z8R10 (bdk (n0T nb221) (bdk (x0_yearsOfAll nb221 h.w.1 hN) rfl))
  · rw [if_pos c0, if_neg c0]
    by_cases c1 : x = 1
    · rw [if_neg (fun w => w c1), if_pos c1]
      exact bdk z8R10 (bdk (n0T nb221) (bdk (x0_emptySpans nb221 h.w.1 hN) rfl))
    · rw [if_pos c1, if_neg c1]
      refine bdk z8R10 (bdk (n0I nb221) ?_)
      rw [h8]
end SQ
/-! the reference -/
theorem NarM.fr {m : Nat} {N : NS} {I I' : Nat → Nat → Int} {P : Nat → Nat → Prop} (h : NarM m N I) (hm : m ≤ 12) (hf : Fr P I I') (hp : ∀ b k, P b k → ¬ PN b k) : NarM m N I' := by
  obtain ⟨h1, h2, h3, h4, h5⟩ := h
  refine ⟨fun s hs y hy => ?_, fun r hr => ?_, ?_, fun q => ⟨?_, ?_⟩, ?_⟩
  · rw [hf _ _ (fun q => hp _ _ q (by unfold PN; omega))]; exact h1 s hs y hy
  · rw [hf _ _ (fun q => hp _ _ q (by unfold PN; omega))]; exact h2 r hr
  · rw [hf _ _ (fun q => hp _ _ q (by unfold PN; omega))]; exact h3
  · rw [hf _ _ (fun q => hp _ _ q (by unfold PN; omega))]; exact (h4 q).1
  · rw [hf _ _ (fun q => hp _ _ q (by unfold PN; omega))]; exact (h4 q).2
  · rw [hf _ _ (fun q => hp _ _ q (by unfold PN; omega))]; exact h5
theorem RNI.fr {T : Td} {N : NS} {I I' : Nat → Nat → Int} {P : Nat → Nat → Prop} (h : RNI T N I) (hm : nSa T ≤ 12) (hf : Fr P I I') (hp : ∀ b k, P b k → ¬ PN b k ∧ b ≠ 1172 ∧ b ≠ 1175 ∧ b ≠ 1176 ∧ b ≠ 1177 ∧ b ≠ 1178 ∧ ¬ (b = 1170 ∧ 6 ≤ k ∧ k ≤ 8)) : RNI T N I' :=
  ⟨h.1.fr hf (fun b k q => (hp b k q).2), h.2.1.fr hm hf (fun b k q => (hp b k q).1), h.2.2⟩
section SR
variable {n : Nat} {c : Nat × Nat × Nat × Nat} {I : Nat → Nat → Int} {W : Nat → Nat → BitVec 64} {p : Nat → Nat} {T : Td}
/-- what is so of the reference between two layings -/
def RX (T : Td) (I : Nat → Nat → Int) : Prop := RefT T I ∧ RefF T I ∧ I 1170 17 = -1 ∧ I 1170 19 = -1 ∧ I 1170 0 = 0
def PS9 (b k : Nat) : Prop := b = 1170 ∧ 17 ≤ k ∧ k ≤ 19
theorem PS9_L : ∀ b k, PS9 b k → ¬ PL b k ∧ b ≠ 1172 ∧ b ≠ 1175 ∧ b ≠ 1176 ∧ b ≠ 1177 ∧ b ≠ 1178 ∧ ¬ (b = 1170 ∧ 6 ≤ k ∧ k ≤ 8) := fun b k q => by unfold PS9 at q; unfold PL; omega
theorem PS9_N : ∀ b k, PS9 b k → ¬ PN b k ∧ b ≠ 1172 ∧ b ≠ 1175 ∧ b ≠ 1176 ∧ b ≠ 1177 ∧ b ≠ 1178 ∧ ¬ (b = 1170 ∧ 6 ≤ k ∧ k ≤ 8) := fun b k q => by unfold PS9 at q; unfold PN; omega
/-- what is laid with a rule left out, or a year pinned -/
theorem r_sup {ps py lo : Int} {J : Nat → Nat → Int} (hw : WF T) (h : RX T I) (hJ : Fr PS9 I J) (h17 : J 1170 17 = ps) (h18 : J 1170 18 = py) (h19 : J 1170 19 = lo) :
    ∃ I1, D_X9_lays 1170 (st true n c J W p) = some (st true n c I1 W p) ∧ (∀ I', Fr PS9 I1 I' → I' 1170 17 = -1 → I' 1170 19 = -1 → RX T I' ∧ RNI T (runS T lo (FP T ps py)).1 I' ∧ I' 1170 20 = ((runS T lo (FP T ps py)).2 : Nat) ∧ Fr PX I I' ∧ (∀ b k, 1230 ≤ b → b < 1242 → I' b k = I b k)) ∧ I1 1170 24 = (if nCs (runS T lo (FP T ps py)).1 = -2 then 0 else 1) ∧ I1 1170 19 = lo ∧ I1 1170 17 = ps := by
  have hn' := hw.1
  unfold WFn at hn'
  have hm : nSa T ≤ 12 := by unfold nSa; omega
  obtain ⟨h1, h2, h3, h4, h5⟩ := h
  have tJ : RefT T J := h1.fr hJ (fun b k q => (PS9_L b k q).2)
  have fJ : RefF T J := h2.fr hJ PS9_L hm
  obtain ⟨I1, e, hL, h28, f⟩ := x9_lays (n := n) (c := c) (W := W) (p := p) hw tJ fJ h17 h18 h19
  refine ⟨I1, e, fun I' f' a17 a19 => ?_, hL.1.2.1.2.2.1, ?_, ?_⟩
  · have hF := RefF_of hL h28
    refine ⟨⟨hL.1.1.fr f' (fun b k q => (PS9_L b k q).2), hF.fr f' PS9_L hm, a17, a19, ?_⟩, hL.1.fr hm f' PS9_N, ?_, fun b k q => ?_, fun b k q1 q2 => ?_⟩
    · rw [f' _ _ (by unfold PS9; omega), f _ _ (by unfold PL; omega), hJ _ _ (by unfold PS9; omega), h5]
    · rw [f' _ _ (by unfold PS9; omega)]; exact hL.2.1
    · unfold PX QL PQ at q
      rw [f' _ _ (by unfold PS9; omega), f _ _ (fun w => q (Or.inl (Or.inl w))), hJ _ _ (by unfold PS9; omega)]
    · rw [f' _ _ (by unfold PS9; omega), f _ _ (by unfold PL; omega), hJ _ _ (by unfold PS9; omega)]
  · rw [f _ _ (by unfold PL; omega), h19]
  · rw [f _ _ (by unfold PL; omega), h17]
theorem u2_PS {k : Nat} {x : Int} (hk : 17 ≤ k ∧ k ≤ 19) : Fr PS9 I (u2 I 1170 k x) := fun b j q => u2_ne _ _ (by unfold PS9 at q; omega)
/-- all that a supposing call of the reference leaves -/
def RS (T : Td) (R : NS × Nat) (I I' : Nat → Nat → Int) : Prop := RX T I' ∧ RNI T R.1 I' ∧ I' 1170 20 = (R.2 : Nat) ∧ Fr PX I I' ∧ (∀ b k, 1230 ≤ b → b < 1242 → I' b k = I b k) ∧ I' 1170 24 = (if nCs R.1 = -2 then 0 else 1)
theorem r_without {r : Nat} (hw : WF T) (h : RX T I) : ∃ I', D_X9_laysWithout 1170 (r : Int) (st true n c I W p) = some (st true n c I' W p) ∧ RS T (runS T (r : Int) (FS T)) I I' := by
  obtain ⟨I1, e, hN, h24, h19, h17⟩ := r_sup (n := n) (c := c) (W := W) (p := p) (J := u2 I 1170 19 (r : Int)) (ps := -1) (py := I 1170 18) (lo := (r : Int)) hw h (u2_PS (by decide)) (by rw [u2_ne _ _ (by omega)]; exact h.2.2.1) (by rw [u2_ne _ _ (by omega)]) (by rw [u2_eq])
  rw [FP_plain] at hN h24
  obtain ⟨a1, a2, a3, a4, a5⟩ := hN (u2 I1 1170 19 (-1)) (u2_PS (by decide)) (by rw [u2_ne _ _ (by omega)]; exact h17) (by rw [u2_eq])
  refine ⟨u2 I1 1170 19 (-1), ?_, a1, a2, a3, a4, a5, by rw [u2_ne _ _ (by omega)]; exact h24⟩
  unfold D_X9_laysWithout
  exact bdk z9P (bdk z9T (bdk e (bdk z9P rfl)))
theorem r_pinned {t y : Nat} (hw : WF T) (h : RX T I) : ∃ I', D_X9_laysPinned 1170 (t : Int) (y : Int) (st true n c I W p) = some (st true n c I' W p) ∧ RS T (runS T (-1) (FP T (t : Int) (y : Int))) I I' := by
  obtain ⟨I1, e, hN, h24, h19, h17⟩ := r_sup (n := n) (c := c) (W := W) (p := p) (J := u2 (u2 I 1170 17 (t : Int)) 1170 18 (y : Int)) (ps := (t : Int)) (py := (y : Int)) (lo := -1) hw h (Fr.trans' (u2_PS (by decide)) (u2_PS (by decide))) (by rw [u2_ne _ _ (by omega), u2_eq]) (by rw [u2_eq]) (by rw [u2_ne _ _ (by omega), u2_ne _ _ (by omega)]; exact h.2.2.2.1)
  obtain ⟨a1, a2, a3, a4, a5⟩ := hN (u2 I1 1170 17 (-1)) (u2_PS (by decide)) (by rw [u2_eq]) (by rw [u2_ne _ _ (by omega)]; exact h19)
  refine ⟨u2 I1 1170 17 (-1), ?_, a1, a2, a3, a4, a5, by rw [u2_ne _ _ (by omega)]; exact h24⟩
  unfold D_X9_laysPinned
  exact bdk z9P (bdk z9P (bdk z9T (bdk e (bdk z9P rfl))))
theorem r_toldBy {x : Int} {R : NS × Nat} {I' : Nat → Nat → Int} (hw : WF T) (h : RS T R I I') : D_X9_toldBy 1170 x (st true n c I' W p) = some (supS T R x) := by
  unfold D_X9_toldBy D_X9_toldBy_27 supS
  by_cases c0 : x = 0
  · rw [if_neg (fun w => w c0), if_pos c0]
    exact bdk z9T (bdk (x9_yearsAll hw.1 h.2.1) rfl)
  · rw [if_pos c0, if_neg c0]
    by_cases c1 : x = 1
    · rw [if_neg (fun w => w c1), if_pos c1]
      exact bdk z9T (bdk (x9_empties hw.1 h.2.1) rfl)
    · rw [if_pos c1, if_neg c1]
      refine bdk z9I ?_
      rw [h.2.2.1]
theorem RX_zJ {s : Sp} (h : IM s I) : RX (sT s) (zJ I) := ⟨zJ_T h.T, zJ_F h.F, by rw [zJ_ne (by omega)]; exact h.k.2.2.2.1, by rw [zJ_ne (by omega)]; exact h.k.2.2.2.2, zJ0⟩
theorem PX_zJ : Fr PX I (zJ I) := fun b k q => zJ_ne (fun w => q (Or.inl (Or.inr w)))
theorem AskX_R {J : Nat → Nat → Int} (h : RX T J) (hf : Fr PX I J) : AskX T I J ∧ J 1170 0 = 0 := ⟨⟨h.1, h.2.1, hf, h.2.2.1, h.2.2.2.1⟩, h.2.2.2.2⟩
end SR
