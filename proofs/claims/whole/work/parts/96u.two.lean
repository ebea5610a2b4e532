/-! THE PURE PART: signs, numbers, names on both sides at once -/
/-- both have failed, with one fault at one place -/
def Bad (B : Nat → Int) (L : Nat) (I J : Nat → Nat → Int) : Prop := ∃ k pl, CF B L k pl I ∧ MF B L k pl J
/-- both are ready at one place (behind q), or both have failed -/
def S2 (B : Nat → Int) (L q : Nat) (I J : Nat → Nat → Int) : Prop := (∃ a b, q ≤ sk B L a ∧ sk B L a = sk B L b ∧ CX B L a I ∧ MX B L b J) ∨ Bad B L I J
def N2 (B : Nat → Int) (L q m : Nat) (vs : Nat → Int) (I J : Nat → Nat → Int) : Prop := (∃ a, q ≤ a ∧ CX B L a I ∧ MX B L a J ∧ LKs B L a m vs J) ∨ Bad B L I J
/-- the names that are told, on both sides -/
def NM (B : Nat → Int) (ns np nr : Nat) (I J : Nat → Nat → Int) : Prop := NmsC ns np nr I ∧ NmsM B ns np (fun k => I 186 k) (fun k => I 187 k) J
/-- what a name on the reference may change -/
def PNm (x y : Nat) : Prop := (x = 1170 ∧ 39 ≤ y ∧ y ≤ 43) ∨ x = 1228 ∨ (x = 1170 ∧ y = 48)
/-- a fault that stands stays -/
def St (J J' : Nat → Nat → Int) : Prop := J 1170 42 ≠ 0 → J' 1170 42 = J 1170 42 ∧ J' 1170 43 = J 1170 43
theorem St.r {J : Nat → Nat → Int} : St J J := fun _ => ⟨rfl, rfl⟩
theorem St.t {J K M : Nat → Nat → Int} (h : St J K) (h2 : St K M) : St J M := fun z => by
  obtain ⟨a, b⟩ := h z
  obtain ⟨a2, b2⟩ := h2 (by rw [a]; exact z)
  exact ⟨a2.trans a, b2.trans b⟩
theorem St.f {B : Nat → Int} {L : Nat} {k pl : Int} {J J' : Nat → Nat → Int} (h : MF B L k pl J) (h2 : MF B L k pl J') : St J J' := fun _ => ⟨h2.2.1.1.trans h.2.1.1.symm, h2.2.2.trans h.2.2.symm⟩
theorem St.o {J J' : Nat → Nat → Int} (h : J 1170 42 = 0) : St J J' := fun z => absurd h z
theorem St.fr {J J' : Nat → Nat → Int} (h1 : J' 1170 42 = J 1170 42) (h2 : J' 1170 43 = J 1170 43) : St J J' := fun _ => ⟨h1, h2⟩
section TW
variable {n : Nat} {c d : Nat × Nat × Nat × Nat} {I J I' J' : Nat → Nat → Int} {W V : Nat → Nat → BitVec 64} {p r : Nat → Nat} {B : Nat → Int} {L q m ns np nr : Nat} {k pl : Int} {vs : Nat → Int}
theorem N2.s (h : N2 B L q m vs I J) : S2 B L q I J := by
  rcases h with ⟨a, hq, h1, h2, -⟩ | h
  · exact Or.inl ⟨a, a, Nat.le_trans hq sk_ge, rfl, h1, h2⟩
  · exact Or.inr h
theorem Bad.nz (h : Bad B L I J) : J 1170 42 ≠ 0 := by
  obtain ⟨k, pl, -, h⟩ := h
  exact h.nz
theorem S2.ok (h : S2 B L q I J) (z : J 1170 42 = 0) : ∃ a b, q ≤ sk B L a ∧ sk B L a = sk B L b ∧ CX B L a I ∧ MX B L b J := h.elim id (fun w => absurd z w.nz)
theorem S2.bad (h : S2 B L q I J) (z : J 1170 42 ≠ 0) : Bad B L I J := h.elim (fun ⟨_, _, _, _, _, w⟩ => absurd w.2 z) id
theorem NM.fr (h : NM B ns np nr I J) (h1 : ∀ y, I' 112 y = I 112 y) (h2 : ∀ y, I' 186 y = I 186 y) (h3 : ∀ y, I' 187 y = I 187 y) (h45 : J' 1170 45 = J 1170 45) (h46 : J' 1170 46 = J 1170 46) (hf : ∀ i, J' 1223 i = J 1223 i) : NM B ns np nr I' J' := by
  refine ⟨h.1.fr h1, ?_⟩
  have e2 : (fun k => I' 186 k) = fun k => I 186 k := funext h2
  have e3 : (fun k => I' 187 k) = fun k => I 187 k := funext h3
  rw [e2, e3]
  exact h.2.fr h45 h46 hf
theorem NM.cc (h : NM B ns np nr I J) (h1 : CC I I') (h2 : Fr PNm J J') : NM B ns np nr I' J' :=
  h.fr (fun _ => h1.ne (by decide)) (fun _ => h1.ne (by decide)) (fun _ => h1.ne (by decide)) (h2 _ _ (by unfold PNm; omega)) (h2 _ _ (by unfold PNm; omega)) (fun _ => h2 _ _ (by unfold PNm; omega))
theorem MC.pn (h : MC J J') : Fr PNm J J' := fun x y q => h x y (fun w => q (Or.inl w))
theorem t_num {l1 l2 hi : Int} (hB : ∀ k, 0 ≤ B k ∧ B k < 256) (hL : L ≤ 500) (hh : hi < 100000) (h : S2 B L q I J) (hl : J 1170 42 = 0 → l1 = l2) :
    ∃ v w I' J', D_X2_readNumber 111 l1 hi (st true n c I W p) = some (v, st true n c I' W p) ∧ D_X9_number 1170 l2 hi (st true n d J V r) = some (w, st true n d J' V r) ∧ CC I I' ∧ MC J J' ∧ S2 B L q I' J' ∧ (J' 1170 42 = 0 → v = w ∧ l1 ≤ v ∧ v ≤ hi) ∧ (J' 1170 42 = 0 → J 1170 42 = 0) ∧ St J J' := by
  rcases h with ⟨a, b, hq, hab, h1, h2⟩ | ⟨k, pl, h1, h2⟩
  · have e := hl h2.2
    subst e
    obtain ⟨v, I', e1, c1, -, f1⟩ := c_num (n := n) (c := c) (W := W) (p := p) (lo := l1) (hi := hi) hL h1
    obtain ⟨w, J', e2, c2, f2⟩ := m_num (n := n) (c := d) (W := V) (p := r) (lo := l1) (hi := hi) hB hL hh h2
    rw [← hab] at f2
    refine ⟨v, w, I', J', e1, e2, c1, c2, ?_, ?_, fun _ => h2.2, St.o h2.2⟩
    · rcases f1 with ⟨g1, -, g2⟩ | ⟨g1, g2⟩
      · rcases f2 with ⟨k1, -, k2⟩ | ⟨k1, -, k2⟩
        · exact Or.inl ⟨_, _, Nat.le_trans hq (Nat.le_trans (Nat.le_of_lt (de_gt g1.1)) sk_ge), rfl, g2, k2⟩
        · exact absurd g1 k1
      · rcases f2 with ⟨k1, -, k2⟩ | ⟨k1, -, k2⟩
        · exact absurd k1 g1
        · exact Or.inr ⟨_, _, g2, k2⟩
    · intro z
      rcases f2 with ⟨k1, k2, k3⟩ | ⟨k1, -, k2⟩
      · rcases f1 with ⟨g1, g2, -⟩ | ⟨g1, g2⟩
        · rw [g2, k2]
          exact ⟨rfl, g1.2.1, g1.2.2⟩
        · exact absurd k1 g1
      · exact absurd z k2.nz
  · have e1 := c_numF (n := n) (c := c) (W := W) (p := p) (lo := l1) (hi := hi) hL h1
    obtain ⟨J', e2, c2, f2⟩ := m_numF (n := n) (c := d) (W := V) (p := r) (lo := l2) (hi := hi) hB hL h2
    exact ⟨0, l2, I, J', e1, e2, CC.r, c2, Or.inr ⟨_, _, h1, f2⟩, fun z => absurd z f2.nz, fun z => absurd z f2.nz, St.f h2 f2⟩
theorem t_sign {x : Int} (hB : ∀ k, 0 ≤ B k ∧ B k < 256) (hL : L ≤ 500) (hx : 0 < x ∧ x < 128) (h : S2 B L q I J) :
    ∃ I' J', D_X2_readSign 111 x (st true n c I W p) = some (st true n c I' W p) ∧ D_X9_must 1170 x (st true n d J V r) = some (st true n d J' V r) ∧ CC I I' ∧ MC J J' ∧ ((∃ a, q < a ∧ CX B L a I' ∧ MX B L a J') ∨ Bad B L I' J') ∧ (J' 1170 42 = 0 → J 1170 42 = 0) ∧ St J J' := by
  rcases h with ⟨a, b, hq, hab, h1, h2⟩ | ⟨k, pl, h1, h2⟩
  · obtain ⟨I', e1, c1, f1⟩ := c_sign (n := n) (c := c) (W := W) (p := p) (x := x) hL (by omega) h1
    obtain ⟨J', e2, c2, f2⟩ := m_must (n := n) (c := d) (W := V) (p := r) hB hL hx h2
    rw [← hab] at f2
    refine ⟨I', J', e1, e2, c1, c2, ?_, fun _ => h2.2, St.o h2.2⟩
    rcases f1 with ⟨g1, g2⟩ | ⟨g1, g2⟩
    · rcases f2 with ⟨k1, k2⟩ | ⟨k1, k2⟩
      · exact Or.inl ⟨_, by omega, g2, k2⟩
      · exact absurd g1 k1
    · rcases f2 with ⟨k1, k2⟩ | ⟨k1, k2⟩
      · exact absurd k1 g1
      · exact Or.inr ⟨_, _, g2, k2⟩
  · exact ⟨I, J, c_signF hL h1, m_mustF h2, CC.r, MC.r, Or.inr ⟨_, _, h1, h2⟩, fun z => absurd z h2.nz, St.r⟩
/-- a number that may be left out -/
theorem t_opt {l1 l2 hi dv : Int} (hB : ∀ k, 0 ≤ B k ∧ B k < 256) (hL : L ≤ 500) (hh : hi < 100000) (h : S2 B L q I J) (hl : J 1170 42 = 0 → l1 = l2) :
    ∃ v w I' J', (∀ K : Int → mS → Option mS, ((D_X2_peek 111 (st true n c I W p)).bind fun r1 => (D_X2_isDigit r1.1 r1.2).bind fun r2 => if r2 = 0 then K dv r1.2 else (tgO r1.2 111 2).bind fun _ => (D_X2_readNumber 111 l1 hi r1.2).bind fun r3 => K r3.1 r3.2) = K v (st true n c I' W p)) ∧
      (∀ K : Int → mS → Option mS, ((D_X9_isDigit 1170 (st true n d J V r)).bind fun r1 => if r1.1 = 0 then K dv r1.2 else (tgO r1.2 1170 8).bind fun _ => (D_X9_number 1170 l2 hi r1.2).bind fun r3 => K r3.1 r3.2) = K w (st true n d J' V r)) ∧ CC I I' ∧ MC J J' ∧ S2 B L q I' J' ∧ (J' 1170 42 = 0 → v = w ∧ (v = dv ∨ l1 ≤ v ∧ v ≤ hi)) ∧ (J' 1170 42 = 0 → J 1170 42 = 0) ∧ St J J' := by
  rcases h with ⟨a, b, hq, hab, h1, h2⟩ | ⟨k, pl, h1, h2⟩
  · have e1 := c_peek (n := n) (c := c) (W := W) (p := p) hL h1
    have e2 := m_isDigit (n := n) (c := d) (W := V) (p := r) hB hL h2
    have h1' := CX.mv h1 (a' := sk B L a) (sk_le h1.2.2.2.2)
    have h2' := MX.mv h2 (b' := sk B L b) (sk_le h2.1.2.2.2)
    have e3 : ∀ σ, D_X2_isDigit (pk B L (sk B L a)) σ = some (bI (isDg B L (sk B L a))) := fun σ => by rw [c_isDigit, pk_dg]
    rw [← hab] at e2
    cases hd : isDg B L (sk B L a) with
    | false =>
      rw [hd] at e2
      refine ⟨dv, dv, _, _, fun K => bdk e1 (bdk (e3 _) ?_), fun K => bdk e2 ?_, CC.u (by omega), MC.u (by omega), Or.inl ⟨_, _, ?_, ?_, h1', hab ▸ h2'⟩, fun _ => ⟨rfl, Or.inl rfl⟩, fun _ => h2.2, St.o h2.2⟩
      · rw [hd]; exact if_pos rfl
      · exact if_pos rfl
      · rw [sk_sk]; exact hq
      · rfl
    | true =>
      rw [hd] at e2
      rw [← hab] at h2'
      obtain ⟨v, w, I', J', k1, k2, k3, k4, k5, k6, k7, -⟩ := t_num (n := n) (c := c) (d := d) (W := W) (V := V) (p := p) (r := r) (q := q) (l1 := l1) (l2 := l2) hB hL hh (Or.inl ⟨_, _, by rw [sk_sk]; exact hq, rfl, h1', h2'⟩) (fun _ => hl h2.2)
      refine ⟨v, w, I', J', fun K => bdk e1 (bdk (e3 _) ?_), fun K => bdk e2 ?_, CC.t (CC.u (by omega)) k3, MC.t (MC.u (by omega)) k4, k5, fun z => ⟨(k6 z).1, Or.inr (k6 z).2⟩, fun _ => h2.2, St.o h2.2⟩
      · rw [hd]
        show (if (1 : Int) = 0 then _ else _) = _
        rw [if_neg (by decide)]
        exact bdk y2T (bdk k1 rfl)
      · show (if (1 : Int) = 0 then _ else _) = _
        rw [if_neg (by decide)]
        exact bdk z9T (bdk k2 rfl)
  · obtain ⟨x, e1⟩ := c_peekF (n := n) (c := c) (W := W) (p := p) hL h1
    have e2 := m_isDigitF (n := n) (c := d) (W := V) (p := r) h2
    have e3 := c_numF (n := n) (c := c) (W := W) (p := p) (lo := l1) (hi := hi) hL h1
    refine ⟨if bI (decide (48 ≤ x ∧ x ≤ 57)) = 0 then dv else 0, dv, I, J, fun K => bdk e1 (bdk c_isDigit ?_), fun K => bdk e2 (if_pos rfl), CC.r, MC.r, Or.inr ⟨_, _, h1, h2⟩, fun z => absurd z h2.nz, fun z => absurd z h2.nz, St.r⟩
    by_cases t : bI (decide (48 ≤ x ∧ x ≤ 57)) = 0
    · rw [if_pos t, if_pos t]
    · rw [if_neg t, if_neg t]
      exact bdk y2T (bdk e3 rfl)
/-- a name told anew -/
theorem t_new {a row : Nat} (hB : ∀ k, 0 ≤ B k ∧ B k < 256) (hL : L ≤ 500) (hr : row < 16) (h1 : CX B L a I) (h2 : MX B L a J) (h48 : J 1170 48 = 0) (hN : NM B ns np nr I J) (hq : q ≤ a) :
    ∃ v I' J', D_X2_readNewName 111 (st true n c I W p) = some (v, st true n c I' W p) ∧ D_X9_fresh 1170 (row : Int) (st true n d J V r) = some (st true n d J' V r) ∧ CC I I' ∧ Fr (PFr row) J J' ∧ N2 B L q 1 (fun _ => v) I' J' ∧ (J' 1170 42 = 0 → NmM B J' row v ∧ ¬ taken ns np (fun k => I 186 k) (fun k => I 187 k) v) := by
  obtain ⟨v, I', e1, c1, f1⟩ := c_newName (n := n) (c := c) (W := W) (p := p) hL h1 hN.1
  have hk : LKs B L a 0 (fun _ => 0) J := ⟨h48, by omega, fun k hk => absurd hk (by omega)⟩
  obtain ⟨J', e2, c2, f2⟩ := m_fresh (n := n) (c := d) (W := V) (p := r) hB hL hr h2 hN.2 hk (Nat.le_refl a)
  refine ⟨v, I', J', e1, e2, c1, c2, ?_, ?_⟩
  · rcases f1 with ⟨g1, g2, g3, g4⟩ | ⟨g1, g2, g3⟩ | ⟨g1, g2⟩
    · rcases f2 with ⟨-, -, k3, -, k5⟩ | ⟨k1, k2, -⟩ | ⟨k1, -⟩
      · refine Or.inl ⟨_, ?_, g4, k3, g3 ▸ k5⟩
        exact Nat.le_trans hq (Nat.le_trans sk_ge we_ge)
      · exact absurd k2 g2
      · exact absurd g1 k1
    · rcases f2 with ⟨-, k2, -⟩ | ⟨k1, k2, k3⟩ | ⟨k1, -⟩
      · exact absurd g2 k2
      · exact Or.inr ⟨_, _, g3, k3⟩
      · exact absurd g1 k1
    · rcases f2 with ⟨k1, -⟩ | ⟨k1, -⟩ | ⟨k1, k2⟩
      · exact absurd k1 g1
      · exact absurd k1 g1
      · exact Or.inr ⟨_, _, g2, k2⟩
  · intro z
    rcases f2 with ⟨k1, k2, k3, k4, k5⟩ | ⟨k1, k2, k3⟩ | ⟨k1, k2⟩
    · rcases f1 with ⟨g1, g2, g3, g4⟩ | ⟨g1, g2, g3⟩ | ⟨g1, g2⟩
      · rw [g3]; exact ⟨k4, k2⟩
      · exact absurd g2 k2
      · exact absurd k1 g1
    · exact absurd z k3.nz
    · exact absurd z k2.nz
theorem t_sName {tw : Int} (hB : ∀ k, 0 ≤ B k ∧ B k < 256) (hL : L ≤ 500) (h : N2 B L q m vs I J) (hN : NM B ns np nr I J) (hm : m < 8) (htw : J 1170 42 = 0 → ∀ x, (∃ i, i < m ∧ vs i = x) ↔ (fiN (fun k => I 186 k) x ns 0 ≠ -1 ∧ fiN (fun k => I 186 k) x ns 0 = tw)) :
    ∃ v w I' J' vs', D_X2_readSampleName 111 tw (st true n c I W p) = some (v, st true n c I' W p) ∧ D_X9_known 1170 0 (st true n d J V r) = some (w, st true n d J' V r) ∧ CC I I' ∧ Fr PNm J J' ∧ N2 B L q (m + 1) vs' I' J' ∧ (J' 1170 42 = 0 → v = w ∧ 0 ≤ v ∧ v < ns ∧ v ≠ tw ∧ v = fiN (fun k => I 186 k) (vs' m) ns 0 ∧ ∀ i, i < m → vs' i = vs i) ∧ (J' 1170 42 = 0 → J 1170 42 = 0) ∧ St J J' := by
  rcases h with ⟨a, hq, h1, h2, hk⟩ | ⟨k, pl, h1, h2⟩
  · obtain ⟨v, I', e1, c1, rng, f1⟩ := c_sName (n := n) (c := c) (W := W) (p := p) (tw := tw) hL h1 hN.1
    obtain ⟨n45, n46, ⟨n12, n4⟩, nS, nP⟩ := hN.2
    have hN1 : ∀ k, k < ns → NmM B J (rowOf 0 k) ((fun k => I 186 k) k) := fun k hk => by unfold rowOf; rw [if_pos rfl]; exact nS k hk
    obtain ⟨w, J', e2, c2, f2⟩ := m_known (n := n) (c := d) (W := V) (p := r) (ph := 0) hB hL (Or.inl rfl) h2 ⟨n12, fun w => absurd rfl w⟩ hN1 (by rw [if_pos rfl]; exact n45) hk hm (Nat.le_refl a)
    have ht := htw h2.2 (nv B (sk B L a) (we B L (sk B L a) - sk B L a))
    refine ⟨v, w, I', J', fun i => if i = m then nv B (sk B L a) (we B L (sk B L a) - sk B L a) else vs i, e1, e2, c1, c2.mono (fun x y z => by unfold PKn at z; unfold PNm; omega), ?_, ?_, fun _ => h2.2, St.o h2.2⟩
    · rcases f1 with ⟨g1, g2, g3, g4, g5⟩ | ⟨g1, g2, g3, g4, g5⟩ | ⟨g1, g2, g3, g5⟩ | ⟨g1, g5⟩
      · rw [g2] at g3 g4
        rcases f2 with ⟨k1, k2, k3, k4, k5, k6⟩ | ⟨k1, k2, -⟩ | ⟨k1, -, k3, -⟩ | ⟨k1, -⟩
        · exact Or.inl ⟨_, Nat.le_trans hq (Nat.le_trans sk_ge we_ge), g5, k5, k6⟩
        · exact absurd (ht.1 k2).2 g4
        · exact absurd k3 g3
        · exact absurd g1 k1
      · rw [g2] at g3 g4
        rcases f2 with ⟨k1, k2, -⟩ | ⟨-, -, -, k5⟩ | ⟨k1, k2, -⟩ | ⟨k1, -⟩
        · exact absurd (ht.2 ⟨g3, g4⟩) k2
        · exact Or.inr ⟨_, _, g5, k5⟩
        · exact absurd (ht.2 ⟨g3, g4⟩) k2
        · exact absurd g1 k1
      · rw [g2] at g3
        rcases f2 with ⟨k1, k2, k3, -⟩ | ⟨k1, k2, -⟩ | ⟨-, -, -, -, k5⟩ | ⟨k1, -⟩
        · exact absurd g3 k3
        · exact absurd g3 (ht.1 k2).1
        · exact Or.inr ⟨_, _, g5, k5⟩
        · exact absurd g1 k1
      · rcases f2 with ⟨k1, -⟩ | ⟨k1, -⟩ | ⟨k1, -⟩ | ⟨-, -, k5⟩
        · exact absurd k1 g1
        · exact absurd k1 g1
        · exact absurd k1 g1
        · exact Or.inr ⟨_, _, g5, k5⟩
    · intro z
      rcases f2 with ⟨k1, k2, k3, k4, k5, k6⟩ | ⟨-, -, -, k5⟩ | ⟨-, -, -, -, k5⟩ | ⟨-, -, k5⟩
      · rcases f1 with ⟨g1, g2, g3, g4, g5⟩ | ⟨g1, g2, g3, g4, g5⟩ | ⟨g1, g2, g3, g5⟩ | ⟨g1, g5⟩
        · refine ⟨by rw [g2, k4], by omega, rng.2, g4, by rw [g2]; show _ = fiN _ (if m = m then _ else _) _ _; rw [if_pos rfl], fun i hi => by show (if i = m then _ else _) = _; rw [if_neg (by omega)]⟩
        · rw [g2] at g3 g4
          exact absurd (ht.2 ⟨g3, g4⟩) k2
        · rw [g2] at g3; exact absurd g3 k3
        · exact absurd k1 g1
      · exact absurd z k5.nz
      · exact absurd z k5.nz
      · exact absurd z k5.nz
  · obtain ⟨v, I', e1, c1, f1⟩ := c_sNameF (n := n) (c := c) (W := W) (p := p) (tw := tw) hL h1 hN.1
    obtain ⟨J', e2, c2, f2⟩ := m_knownF (n := n) (c := d) (W := V) (p := r) (ph := 0) hB hL h2
    exact ⟨v, 0, I', J', vs, e1, e2, c1, c2.pn, Or.inr ⟨_, _, f1, f2⟩, fun z => absurd z f2.nz, fun z => absurd z f2.nz, St.f h2 f2⟩
theorem t_pName {tw : Int} (hB : ∀ k, 0 ≤ B k ∧ B k < 256) (hL : L ≤ 500) (h : N2 B L q m vs I J) (hN : NM B ns np nr I J) (hm : m < 8) (htw : J 1170 42 = 0 → ∀ x, (∃ i, i < m ∧ vs i = x) ↔ (fiN (fun k => I 187 k) x np 0 ≠ -1 ∧ fiN (fun k => I 187 k) x np 0 = tw)) :
    ∃ v w I' J' vs', D_X2_readPhaseName 111 tw (st true n c I W p) = some (v, st true n c I' W p) ∧ D_X9_known 1170 1 (st true n d J V r) = some (w, st true n d J' V r) ∧ CC I I' ∧ Fr PNm J J' ∧ N2 B L q (m + 1) vs' I' J' ∧ (J' 1170 42 = 0 → v = w ∧ 0 ≤ v ∧ v < np ∧ v ≠ tw ∧ v = fiN (fun k => I 187 k) (vs' m) np 0 ∧ ∀ i, i < m → vs' i = vs i) ∧ (J' 1170 42 = 0 → J 1170 42 = 0) ∧ St J J' := by
  rcases h with ⟨a, hq, h1, h2, hk⟩ | ⟨k, pl, h1, h2⟩
  · obtain ⟨v, I', e1, c1, rng, f1⟩ := c_pName (n := n) (c := c) (W := W) (p := p) (tw := tw) hL h1 hN.1
    obtain ⟨n45, n46, ⟨n12, n4⟩, nS, nP⟩ := hN.2
    have hN1 : ∀ k, k < np → NmM B J (rowOf 1 k) ((fun k => I 187 k) k) := fun k hk => by unfold rowOf; rw [if_neg (by decide)]; exact nP k hk
    obtain ⟨w, J', e2, c2, f2⟩ := m_known (n := n) (c := d) (W := V) (p := r) (ph := 1) hB hL (Or.inr rfl) h2 ⟨by omega, fun _ => n4⟩ hN1 (by rw [if_neg (by decide)]; exact n46) hk hm (Nat.le_refl a)
    have ht := htw h2.2 (nv B (sk B L a) (we B L (sk B L a) - sk B L a))
    refine ⟨v, w, I', J', fun i => if i = m then nv B (sk B L a) (we B L (sk B L a) - sk B L a) else vs i, e1, e2, c1, c2.mono (fun x y z => by unfold PKn at z; unfold PNm; omega), ?_, ?_, fun _ => h2.2, St.o h2.2⟩
    · rcases f1 with ⟨g1, g2, g3, g4, g5⟩ | ⟨g1, g2, g3, g4, g5⟩ | ⟨g1, g2, g3, g5⟩ | ⟨g1, g5⟩
      · rw [g2] at g3 g4
        rcases f2 with ⟨k1, k2, k3, k4, k5, k6⟩ | ⟨k1, k2, -⟩ | ⟨k1, -, k3, -⟩ | ⟨k1, -⟩
        · exact Or.inl ⟨_, Nat.le_trans hq (Nat.le_trans sk_ge we_ge), g5, k5, k6⟩
        · exact absurd (ht.1 k2).2 g4
        · exact absurd k3 g3
        · exact absurd g1 k1
      · rw [g2] at g3 g4
        rcases f2 with ⟨k1, k2, -⟩ | ⟨-, -, -, k5⟩ | ⟨k1, k2, -⟩ | ⟨k1, -⟩
        · exact absurd (ht.2 ⟨g3, g4⟩) k2
        · exact Or.inr ⟨_, _, g5, k5⟩
        · exact absurd (ht.2 ⟨g3, g4⟩) k2
        · exact absurd g1 k1
      · rw [g2] at g3
        rcases f2 with ⟨k1, k2, k3, -⟩ | ⟨k1, k2, -⟩ | ⟨-, -, -, -, k5⟩ | ⟨k1, -⟩
        · exact absurd g3 k3
        · exact absurd g3 (ht.1 k2).1
        · exact Or.inr ⟨_, _, g5, k5⟩
        · exact absurd g1 k1
      · rcases f2 with ⟨k1, -⟩ | ⟨k1, -⟩ | ⟨k1, -⟩ | ⟨-, -, k5⟩
        · exact absurd k1 g1
        · exact absurd k1 g1
        · exact absurd k1 g1
        · exact Or.inr ⟨_, _, g5, k5⟩
    · intro z
      rcases f2 with ⟨k1, k2, k3, k4, k5, k6⟩ | ⟨-, -, -, k5⟩ | ⟨-, -, -, -, k5⟩ | ⟨-, -, k5⟩
      · rcases f1 with ⟨g1, g2, g3, g4, g5⟩ | ⟨g1, g2, g3, g4, g5⟩ | ⟨g1, g2, g3, g5⟩ | ⟨g1, g5⟩
        · refine ⟨by rw [g2, k4], by omega, rng.2, g4, by rw [g2]; show _ = fiN _ (if m = m then _ else _) _ _; rw [if_pos rfl], fun i hi => by show (if i = m then _ else _) = _; rw [if_neg (by omega)]⟩
        · rw [g2] at g3 g4
          exact absurd (ht.2 ⟨g3, g4⟩) k2
        · rw [g2] at g3; exact absurd g3 k3
        · exact absurd k1 g1
      · exact absurd z k5.nz
      · exact absurd z k5.nz
      · exact absurd z k5.nz
  · obtain ⟨v, I', e1, c1, f1⟩ := c_pNameF (n := n) (c := c) (W := W) (p := p) (tw := tw) hL h1 hN.1
    obtain ⟨J', e2, c2, f2⟩ := m_knownF (n := n) (c := d) (W := V) (p := r) (ph := 1) hB hL h2
    exact ⟨v, 0, I', J', vs, e1, e2, c1, c2.pn, Or.inr ⟨_, _, f1, f2⟩, fun z => absurd z f2.nz, fun z => absurd z f2.nz, St.f h2 f2⟩
/-- the condition of a first name, and of a second -/
theorem tw_0 {nm : Nat → Int} {cnt : Nat} : ∀ x, (∃ i, i < 0 ∧ vs i = x) ↔ (fiN nm x cnt 0 ≠ -1 ∧ fiN nm x cnt 0 = -1) := fun x => ⟨fun ⟨i, h, _⟩ => absurd h (by omega), fun h => absurd h.2 h.1⟩
theorem tw_1 {nm : Nat → Int} {cnt : Nat} {v : Int} (hv : v = fiN nm (vs 0) cnt 0) (h0 : 0 ≤ v) : ∀ x, (∃ i, i < 0 + 1 ∧ vs i = x) ↔ (fiN nm x cnt 0 ≠ -1 ∧ fiN nm x cnt 0 = v) := by
  intro x
  constructor
  · rintro ⟨i, hi, hx⟩
    have e : i = 0 := by omega
    subst e
    rw [← hx, ← hv]
    exact ⟨by omega, rfl⟩
  · rintro ⟨h1, h2⟩
    refine ⟨0, by omega, ?_⟩
    rcases fi_spec (f := nm) (v := x) cnt 0 with ⟨e, -⟩ | ⟨j, e1, -, -, e2⟩
    · exact absurd e h1
    · rcases fi_spec (f := nm) (v := vs 0) cnt 0 with ⟨e, -⟩ | ⟨j', e3, -, -, e4⟩
      · omega
      · have : j = j' := by omega
        rw [← e4, ← this, e2]
end TW
