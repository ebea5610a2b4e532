/-! THE PURE PART: a call on both sides, as one -/
/-- what is told, what may be taken back (how many), the tape (how long), the place of the fault, the refusals -/
abbrev Sp : Type := Td × (Nat → Td) × Nat × Nat × (Nat → Int) × Int × (Nat → Int)
abbrev sT (s : Sp) : Td := s.1
abbrev sU (s : Sp) : Nat → Td := s.2.1
abbrev sN (s : Sp) : Nat := s.2.2.1
abbrev sL9 (s : Sp) : Nat := s.2.2.2.1
abbrev sB9 (s : Sp) : Nat → Int := s.2.2.2.2.1
abbrev sF (s : Sp) : Int := s.2.2.2.2.2.1
abbrev sX (s : Sp) : Nat → Int := s.2.2.2.2.2.2
def GoodS (s : Sp) : Prop := Good (sT s) (sU s) (sN s) (sL9 s) (sB9 s)
def IC (s : Sp) (I : Nat → Nat → Int) (W : Nat → Nat → BitVec 64) (p : Nat → Nat) : Prop := GoodS s ∧ RelC (sT s) (sU s) (sN s) (sL9 s) (sB9 s) (sF s) (sX s) (Tri (sT s)) I W p
def IM (s : Sp) (I : Nat → Nat → Int) : Prop := GoodS s ∧ RelM (sT s) (sU s) (sN s) (sL9 s) (sB9 s) (sF s) (sX s) I
/-- a refusal counted -/
def bmp (s : Sp) (e : Nat) : Sp := (sT s, sU s, sN s, sL9 s, sB9 s, sF s, fun k => if k = e then mw (sX s e + 1) else sX s k)
/-- the desk leaves the script and the reference alone, the reference all below it -/
def HI (I I' : Nat → Nat → Int) (W W' : Nat → Nat → BitVec 64) : Prop := (∀ b k, b = 1 ∨ 1170 ≤ b → I' b k = I b k) ∧ ∀ b, 1170 ≤ b → W' b = W b
def LO (I I' : Nat → Nat → Int) : Prop := ∀ b k, b < 1170 → I' b k = I b k
theorem HI.r {I : Nat → Nat → Int} {W : Nat → Nat → BitVec 64} : HI I I W W := ⟨fun _ _ _ => rfl, fun _ _ => rfl⟩
theorem HI.t {I J K : Nat → Nat → Int} {W V X : Nat → Nat → BitVec 64} (h : HI I J W V) (h2 : HI J K V X) : HI I K W X := ⟨fun b k q => (h2.1 b k q).trans (h.1 b k q), fun b q => (h2.2 b q).trans (h.2 b q)⟩
def cn (c c' : Nat × Nat × Nat × Nat) : Prop := c'.1 ≤ c.1 + 1 ∧ c'.2.1 ≤ c.2.1 + 6
theorem cn0 {c : Nat × Nat × Nat × Nat} : cn c c := ⟨by omega, by omega⟩
theorem cn1 {c : Nat × Nat × Nat × Nat} : cn c (xc c) := ⟨Nat.le_refl _, Nat.le_refl _⟩
def OK8 (n : Nat) (D : mS → Option ((Int ⊕ Nat) × mS)) (s : Sp) (o : Int ⊕ Nat) (s' : Sp) : Prop := ∀ c I W p, IC s I W p → ∃ c' I' W' p', D (st true n c I W p) = some (o, st true n c' I' W' p') ∧ IC s' I' W' p' ∧ HI I I' W W' ∧ cn c c'
def OK9 (n : Nat) (D : mS → Option (Int × mS)) (s : Sp) (v code : Int) (s' : Sp) : Prop := ∀ c I W p, IM s I → ∃ I', D (st true n c I W p) = some (v, st true n c I' W p) ∧ IM s' I' ∧ LO I I' ∧ I' 1170 0 = code
/-- both sides answer alike; cm: the code of a kind of refusal in this call (0: none) -/
def Agree (n : Nat) (D8 : mS → Option ((Int ⊕ Nat) × mS)) (D9 : mS → Option (Int × mS)) (cm : Nat → Int) (s : Sp) : Prop :=
  ∃ o s' v code, OK8 n D8 s o s' ∧ OK9 n D9 s v code s' ∧ ((∃ x, o = Sum.inl x ∧ code = 0 ∧ v = x) ∨ ∃ e, o = Sum.inr e ∧ code = cm e ∧ cm e ≠ 0)
theorem IC.fr {s : Sp} {I I' : Nat → Nat → Int} {W W' : Nat → Nat → BitVec 64} {p : Nat → Nat} (h : IC s I W p) (hI : ∀ b k, b < 1170 → I' b k = I b k) (hW : ∀ b, b < 1170 → W' b = W b) : IC s I' W' p := by
  obtain ⟨hg, ⟨a1, a2, a3⟩, ⟨b1, b2, b3⟩, c1, d1, e1, f1, g1⟩ := h
  have hw := hg.1
  have hn := hw.1
  have hn' := hn
  unfold WFn at hn'
  have fT : ∀ T b, WFn T → b + 74 ≤ 1170 → ClsT b T I → ClsT b T I' := fun T b hT hb h => h.fr (P := fun x _ => 1170 ≤ x) hT (fun x k q => hI x k (by omega)) (fun a k q => Or.inr (by omega))
  refine ⟨hg, ⟨fT _ _ hn (by omega) a1, fun y hy => by rw [hI _ _ (by omega)]; exact a2 y hy, ?_⟩, ⟨b1, b2, fun k hk => ?_⟩, ?_, fun k hk => ?_, fun k hk => ?_, fun t ht y h1 h2 => ?_, ?_⟩
  · obtain ⟨n1, ⟨m1, ⟨k1, k2, k3, k4, k5, k6⟩, m3⟩, n3⟩ := a3
    have s12 : nSa (sT s) ≤ 12 := by unfold nSa; omega
    refine ⟨fun t ht y hy => by rw [hW _ (by omega)]; exact n1 t ht y hy, ⟨fT _ _ hn (by omega) m1, ⟨fun t ht y hy => by rw [hW _ (by omega)]; exact k1 t ht y hy, fun t ht => ?_, fun r hr => ?_, ?_, ?_, ?_⟩, m3⟩, ?_⟩
    · rw [hI _ _ (by omega), hI _ _ (by omega), hI _ _ (by omega)]; exact k2 t ht
    · rw [hI _ _ (by omega)]; exact k3 r hr
    · rw [hI _ _ (by omega)]; exact k4
    · rw [hI _ _ (by omega)]; exact k5
    · rw [hI _ _ (by omega)]; exact k6
    · rw [hI _ _ (by omega)]; exact n3
  · have k12 : k < 12 := by have := hg.2.1; omega
    obtain ⟨j, j1, j2⟩ := b1 k k12
    exact fT _ _ (hg.2.2.2.1 k hk).1.1 (by omega) (b3 k hk)
  · rw [hI _ _ (by omega), hI _ _ (by omega), hI _ _ (by omega)]; exact c1
  · rw [hI _ _ (by omega)]; exact d1 k hk
  · rw [hI _ _ (by omega)]; exact e1 k hk
  · rw [hW _ (by omega)]; exact f1 t ht y h1 h2
  · rcases g1 with g1 | ⟨g1, g2, g3, g4⟩
    · exact Or.inl (by rw [hI _ _ (by omega)]; exact g1)
    · exact Or.inr ⟨by rw [hI _ _ (by omega)]; exact g1, by rw [hI _ _ (by omega)]; exact g2, by rw [hI _ _ (by omega)]; exact g3, fun q j hj => by rw [hI _ _ (by omega)]; exact g4 q j hj⟩
theorem IM.fr {s : Sp} {I I' : Nat → Nat → Int} (h : IM s I) (hI : ∀ b k, 1170 ≤ b → I' b k = I b k) : IM s I' := by
  obtain ⟨hg, a1, a2, a3, a4, a5, a6⟩ := h
  have hw := hg.1
  have hn := hw.1
  have hn' := hn
  unfold WFn at hn'
  refine ⟨hg, a1.fr (P := fun b _ => b < 1170) (fun b k q => hI b k (by omega)) (fun b k q => by omega), a2.fr (P := fun b _ => b < 1170) (fun b k q => hI b k (by omega)) (fun b k q => by unfold PL; omega) (by unfold nSa; omega), fun k hk j hj => by rw [hI _ _ (by omega)]; exact a3 k hk j hj, ?_, fun k hk => by rw [hI _ _ (by omega)]; exact a5 k hk, fun k hk => by rw [hI _ _ (by omega)]; exact a6 k hk⟩
  rw [hI _ _ (by omega), hI _ _ (by omega), hI _ _ (by omega), hI _ _ (by omega), hI _ _ (by omega)]
  exact a4
theorem IC.ref {s : Sp} {I : Nat → Nat → Int} {W : Nat → Nat → BitVec 64} {p : Nat → Nat} {e : Nat} (h : IC s I W p) (he : e < 3) : IC (bmp s e) (rI I e) W p := by
  obtain ⟨hg, ⟨a1, a2, a3⟩, ⟨b1, b2, b3⟩, c1, d1, e1, f1, g1⟩ := h
  have hw := hg.1
  have hn := hw.1
  have ne : ∀ b k, b ≠ 110 → rI I e b k = I b k := fun b k q => u2_ne _ _ (by omega)
  have fT : ∀ T b, WFn T → (b + 74 ≤ 110 ∨ 111 ≤ b) → ClsT b T I → ClsT b T (rI I e) := fun T b hT hb h => h.fr (P := fun x _ => x = 110) hT (fun x k q => ne x k q) (fun a k q => by omega)
  refine ⟨hg, ⟨fT _ _ hn (by omega) a1, fun y hy => by rw [ne _ _ (by omega)]; exact a2 y hy, ?_⟩, ⟨b1, b2, fun k hk => ?_⟩, ?_, fun k hk => ?_, fun k hk => ?_, f1, ?_⟩
  · obtain ⟨n1, ⟨m1, ⟨k1, k2, k3, k4, k5, k6⟩, m3⟩, n3⟩ := a3
    refine ⟨n1, ⟨fT _ _ hn (by omega) m1, ⟨k1, fun t ht => ?_, fun r hr => ?_, ?_, ?_, ?_⟩, m3⟩, ?_⟩
    · rw [ne _ _ (by omega), ne _ _ (by omega), ne _ _ (by omega)]; exact k2 t ht
    · rw [ne _ _ (by omega)]; exact k3 r hr
    · rw [ne _ _ (by omega)]; exact k4
    · rw [ne _ _ (by omega)]; exact k5
    · rw [ne _ _ (by omega)]; exact k6
    · rw [ne _ _ (by omega)]; exact n3
  · have k12 : k < 12 := by have := hg.2.1; have hk2 : k < sN s := hk; omega
    obtain ⟨j, j1, j2⟩ := b1 k k12
    exact fT _ _ (hg.2.2.2.1 k hk).1.1 (by omega) (b3 k hk)
  · rw [ne _ _ (by omega), ne _ _ (by omega), ne _ _ (by omega)]; exact c1
  · rw [ne _ _ (by omega)]; exact d1 k hk
  · show rI I e 110 k = if k = e then mw (sX s e + 1) else sX s k
    unfold rI
    by_cases q : k = e
    · subst q
      rw [u2_eq, if_pos rfl, e1 k hk]
    · rw [u2_ne _ _ (by omega), if_neg q]
      exact e1 k hk
  · rcases g1 with g1 | ⟨g1, g2, g3, g4⟩
    · exact Or.inl (by rw [ne _ _ (by omega)]; exact g1)
    · exact Or.inr ⟨by rw [ne _ _ (by omega)]; exact g1, by rw [ne _ _ (by omega)]; exact g2, by rw [ne _ _ (by omega)]; exact g3, fun q j hj => by rw [ne _ _ (by omega)]; exact g4 q j hj⟩
theorem HI_ref {I : Nat → Nat → Int} {W : Nat → Nat → BitVec 64} {e : Nat} : HI I (rI I e) W W := ⟨fun b k q => u2_ne _ _ (by omega), fun _ _ => rfl⟩
/-- what the reference may leave of an asking call -/
def PX (b k : Nat) : Prop := QL b k ∨ PQ b k ∨ (1230 ≤ b ∧ b < 1242) ∨ (b = 1170 ∧ 17 ≤ k ∧ k ≤ 19)
def AskX (T : Td) (I I' : Nat → Nat → Int) : Prop := RefT T I' ∧ RefF T I' ∧ Fr PX I I' ∧ I' 1170 17 = -1 ∧ I' 1170 19 = -1
theorem PX_lo : ∀ b k, PX b k → 1170 ≤ b := fun b k q => by unfold PX QL PL PQ at q; omega
theorem IM.ask {s : Sp} {I I' : Nat → Nat → Int} (h : IM s I) (hA : AskX (sT s) I I') : IM s I' := by
  obtain ⟨hg, a1, a2, a3, a4, a5, a6⟩ := h
  obtain ⟨b1, b2, b3, b4, b5⟩ := hA
  have ne : ∀ b k, ¬ PX b k → I' b k = I b k := b3
  refine ⟨hg, b1, b2, fun k hk j hj => by rw [ne _ _ (by unfold PX QL PL PQ; omega)]; exact a3 k hk j hj, ⟨?_, ?_, ?_, b4, b5⟩, fun k hk => by rw [ne _ _ (by unfold PX QL PL PQ; omega)]; exact a5 k hk, fun k hk => by rw [ne _ _ (by unfold PX QL PL PQ; omega)]; exact a6 k hk⟩
  · rw [ne _ _ (by unfold PX QL PL PQ; omega)]; exact a4.1
  · rw [ne _ _ (by unfold PX QL PL PQ; omega)]; exact a4.2.1
  · rw [ne _ _ (by unfold PX QL PL PQ; omega)]; exact a4.2.2.1
theorem LO_ask {T : Td} {I I' : Nat → Nat → Int} (hA : AskX T I I') : LO I I' := fun b k q => hA.2.2.1 b k (fun w => by have := PX_lo b k w; omega)
theorem IM.ref {s : Sp} {I : Nat → Nat → Int} {code : Int} {e : Nat} (h : IM s I) (he : e < 3) : IM (bmp s e) (rJ I code e) := by
  obtain ⟨hg, a1, a2, a3, a4, a5, a6⟩ := h
  have hw := hg.1
  have hn := hw.1
  have hn' := hn
  unfold WFn at hn'
  have ne : ∀ b k, b ≠ 1171 → ¬ (b = 1170 ∧ k = 0) → rJ I code e b k = I b k := fun b k q1 q2 => by unfold rJ; rw [u2_ne _ _ (by omega), u2_ne _ _ (by omega)]
  have fr : Fr (fun b k => b = 1171 ∨ (b = 1170 ∧ k = 0)) I (rJ I code e) := fun b k q => ne b k (by omega) (by omega)
  refine ⟨hg, a1.fr fr (fun b k q => by omega), a2.fr fr (fun b k q => by unfold PL; omega) (by unfold nSa; omega), fun k hk j hj => by rw [ne _ _ (by omega) (by omega)]; exact a3 k hk j hj, ?_, fun k hk => by rw [ne _ _ (by omega) (by omega)]; exact a5 k hk, fun k hk => ?_⟩
  · rw [ne _ _ (by omega) (by omega), ne _ _ (by omega) (by omega), ne _ _ (by omega) (by omega), ne _ _ (by omega) (by omega), ne _ _ (by omega) (by omega)]
    exact a4
  · show rJ I code e 1171 k = if k = e then mw (sX s e + 1) else sX s k
    unfold rJ
    by_cases q : k = e
    · subst q
      rw [u2_eq, if_pos rfl, a6 k hk]
    · rw [u2_ne _ _ (by omega), u2_ne _ _ (by omega), if_neg q]
      exact a6 k hk
theorem rJ0 {I : Nat → Nat → Int} {code : Int} {e : Nat} : rJ I code e 1170 0 = code := by unfold rJ; rw [u2_ne _ _ (by omega), u2_eq]
theorem LO_ref {I J : Nat → Nat → Int} {code : Int} {e : Nat} (h : LO I J) : LO I (rJ J code e) := fun b k q => by unfold rJ; rw [u2_ne _ _ (by omega), u2_ne _ _ (by omega)]; exact h b k q
theorem AskX_zJ {s : Sp} {I : Nat → Nat → Int} (h : IM s I) : AskX (sT s) I (zJ I) := by
  obtain ⟨hg, a1, a2, a3, a4, a5, a6⟩ := h
  refine ⟨zJ_T a1, zJ_F a2, fun b k q => zJ_ne (fun w => q (Or.inl (Or.inr w))), ?_, ?_⟩
  · rw [zJ_ne (by omega)]; exact a4.2.2.2.1
  · rw [zJ_ne (by omega)]; exact a4.2.2.2.2
theorem AskX_M {s : Sp} {I I' : Nat → Nat → Int} (h : IM s I) (hA : AskM (sT s) I I') : AskX (sT s) I I' := by
  obtain ⟨hg, a1, a2, a3, a4, a5, a6⟩ := h
  obtain ⟨b1, ⟨b2, -⟩, b3, b4⟩ := hA
  refine ⟨b1, b2, b4.mono (fun b k q => Or.inl q), ?_, ?_⟩
  · rw [b4 _ _ (by unfold QL PL; omega)]; exact a4.2.2.2.1
  · rw [b4 _ _ (by unfold QL PL; omega)]; exact a4.2.2.2.2
theorem AskX_Q {s : Sp} {I I' : Nat → Nat → Int} (h : IM s I) (hA : AskQ (sT s) I I') : AskX (sT s) I I' := by
  obtain ⟨hg, a1, a2, a3, a4, a5, a6⟩ := h
  obtain ⟨b1, ⟨b2, -⟩, b4⟩ := hA
  refine ⟨b1, b2, b4.mono (fun b k q => q.elim Or.inl (fun w => Or.inr (Or.inl w))), ?_, ?_⟩
  · rw [b4 _ _ (by unfold QL PL PQ; omega)]; exact a4.2.2.2.1
  · rw [b4 _ _ (by unfold QL PL PQ; omega)]; exact a4.2.2.2.2
section QQ
variable {n : Nat} {D : mS → Option ((Int ⊕ Nat) × mS)} {E : mS → Option (Int × mS)} {s : Sp} {cm : Nat → Int}
theorem q8v {x : Int} (h : ∀ c I W p, IC s I W p → D (st true n c I W p) = some (Sum.inl x, st true n c I W p)) : OK8 n D s (Sum.inl x) s :=
  fun c I W p hI => ⟨c, I, W, p, h c I W p hI, hI, HI.r, cn0⟩
theorem q8r {e : Nat} (he : e < 3) (h : ∀ c I W p, IC s I W p → D (st true n c I W p) = some (Sum.inr e, st true n (xc c) (rI I e) W p)) : OK8 n D s (Sum.inr e) (bmp s e) :=
  fun c I W p hI => ⟨xc c, rI I e, W, p, h c I W p hI, hI.ref he, HI_ref, cn1⟩
theorem q9v {v : Int} (h : ∀ c I W p, IM s I → ∃ I', E (st true n c I W p) = some (v, st true n c I' W p) ∧ AskX (sT s) I I' ∧ I' 1170 0 = 0) : OK9 n E s v 0 s :=
  fun c I W p hI => by
    obtain ⟨I', e, hA, h0⟩ := h c I W p hI
    exact ⟨I', e, hI.ask hA, LO_ask hA, h0⟩
theorem q9r {v code : Int} {e : Nat} (he : e < 3) (h : ∀ c I W p, IM s I → ∃ J, E (st true n c I W p) = some (v, st true n c (rJ J code e) W p) ∧ AskX (sT s) I J) : OK9 n E s v code (bmp s e) :=
  fun c I W p hI => by
    obtain ⟨J, e2, hA⟩ := h c I W p hI
    exact ⟨_, e2, (hI.ask hA).ref he, LO_ref (LO_ask hA), rJ0⟩
theorem ag_v {x : Int} {s' : Sp} (h8 : OK8 n D s (Sum.inl x) s') (h9 : OK9 n E s x 0 s') : Agree n D E cm s := ⟨_, s', x, 0, h8, h9, Or.inl ⟨x, rfl, rfl, rfl⟩⟩
theorem ag_r {e : Nat} {s' : Sp} {v code : Int} (h8 : OK8 n D s (Sum.inr e) s') (h9 : OK9 n E s v code s') (hc : code = cm e) (h0 : cm e ≠ 0) : Agree n D E cm s := ⟨_, s', v, code, h8, h9, Or.inr ⟨e, rfl, hc, h0⟩⟩
end QQ
/-- AskM leaves the note nothing -/
theorem laysX {s : Sp} {n : Nat} {c : Nat × Nat × Nat × Nat} {I : Nat → Nat → Int} {W : Nat → Nat → BitVec 64} {p : Nat → Nat} (h : IM s I) : ∃ I', D_X9_lays 1170 (st true n c (zJ I) W p) = some (st true n c I' W p) ∧ AskM (sT s) I I' ∧ AskX (sT s) I I' ∧ I' 1170 0 = 0 ∧ ∀ t, t < nSa (sT s) → ∀ y, y < 1000 → I' (1193 + t) y = bI (lft (sT s) t y) := by
  obtain ⟨I', e, hA, h0, hS⟩ := x9_laysAsk (n := n) (c := c) (W := W) (p := p) h.1.1 h.2.1 h.2.2.1 h.2.2.2.2.1.2.2.2.1 h.2.2.2.2.1.2.2.2.2
  exact ⟨I', e, hA, AskX_M h hA, h0, hS⟩
