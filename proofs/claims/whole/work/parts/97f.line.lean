/-! THE PURE PART: one line, on both sides -/
section LS
variable {n : Nat} {c d : Nat × Nat × Nat × Nat} {I J I' J' J0 I1 J1 : Nat → Nat → Int} {W V : Nat → Nat → BitVec 64} {p r : Nat → Nat} {B : Nat → Int} {L q m ns np nr a b j e : Nat} {k pl : Int} {vs : Nat → Int}
theorem kw_spec : ∀ (dd i : Nat), i + dd = 12 → (kwN B j e dd i = -1 ∧ ∀ t, i ≤ t → t < 12 → wq B j e t = false) ∨ ∃ t : Nat, kwN B j e dd i = (t : Int) ∧ i ≤ t ∧ t < 12 ∧ wq B j e t = true := by
  intro dd
  induction dd with
  | zero => intro i hi; exact Or.inl ⟨rfl, fun t h1 h2 => absurd h1 (by omega)⟩
  | succ dd ih =>
    intro i hi
    have e0 : kwN B j e (dd + 1) i = if wq B j e i = true then (i : Int) else kwN B j e dd (i + 1) := rfl
    rw [e0]
    by_cases z : wq B j e i = true
    · rw [if_pos z]
      exact Or.inr ⟨i, rfl, Nat.le_refl i, by omega, z⟩
    · rw [if_neg z]
      rcases ih (i + 1) (by omega) with ⟨h1, h2⟩ | ⟨t, h1, h2, h3⟩
      · refine Or.inl ⟨h1, fun t t1 t2 => ?_⟩
        by_cases y : t = i
        · subst y
          cases hw : wq B j e t
          · rfl
          · exact absurd hw z
        · exact h2 t (by omega) t2
      · exact Or.inr ⟨t, h1, by omega, h3⟩
theorem wq_no {t : Nat} (h : e ≤ j) (ht : t < 12) : wq B j e t = false := by
  have : ∀ t, t < 12 → mStr.getD t [] ≠ [] := by decide +kernel
  refine decide_eq_false fun w => this t ht ?_
  rw [← w]
  unfold seg
  rw [show e - j = 0 by omega]
  rfl
/-- a word that stands here -/
def pw (B : Nat → Int) (L j i : Nat) : Bool := isLt B L j && wq B j (we B L j) i
def Pos (B : Nat → Int) (L j : Nat) (J : Nat → Nat → Int) : Prop := ∃ b, sk B L b = j ∧ MX B L b J
theorem p_no {i : Nat} (hB : ∀ k, 0 ≤ B k ∧ B k < 256) (hL : L ≤ 500) (hi : i < 12) (h : Pos B L j J) (hp : pw B L j i = false) : ∃ J', D_X9_passes 1170 (2 + i) (st true n d J V r) = some (0, st true n d J' V r) ∧ MC J J' ∧ Pos B L j J' ∧ MX B L j J' := by
  obtain ⟨b, rfl, hm⟩ := h
  obtain ⟨J', e1, c1, h1⟩ := m_passes (n := n) (c := d) (W := V) (p := r) hB hL hi hm
  unfold pw at hp
  rw [hp] at e1 h1
  have hx := h1.elim (fun w => absurd w.1 (by decide)) (fun w => w.2)
  exact ⟨J', e1, c1, ⟨sk B L b, sk_sk, hx⟩, hx⟩
theorem p_yes {i : Nat} (hB : ∀ k, 0 ≤ B k ∧ B k < 256) (hL : L ≤ 500) (hi : i < 12) (h : Pos B L j J) (hp : pw B L j i = true) : ∃ J', D_X9_passes 1170 (2 + i) (st true n d J V r) = some (1, st true n d J' V r) ∧ MC J J' ∧ MX B L (we B L j) J' ∧ J' 1170 40 = (j : Nat) := by
  obtain ⟨b, rfl, hm⟩ := h
  obtain ⟨J', e1, c1, h1⟩ := m_passes (n := n) (c := d) (W := V) (p := r) hB hL hi hm
  unfold pw at hp
  rw [hp] at e1 h1
  exact ⟨J', e1, c1, h1.elim (fun w => w.2) (fun w => absurd w.1 (by decide))⟩
theorem o_no {i f : Nat} (hB : ∀ k, 0 ≤ B k ∧ B k < 256) (hL : L ≤ 500) (hi : i < 12) (h : Pos B L j J) (hp : pw B L j i = false) : ∃ J', D_X9_once 1170 (2 + i) (f : Nat) (st true n d J V r) = some (0, st true n d J' V r) ∧ MC J J' ∧ Pos B L j J' ∧ MX B L j J' := by
  obtain ⟨J', e1, c1, h1⟩ := p_no (n := n) (d := d) (V := V) (r := r) hB hL hi h hp
  refine ⟨J', ?_, c1, h1⟩
  unfold D_X9_once
  refine bdk z9T (bdk e1 ?_)
  show (if (0 : Int) ≠ 0 then _ else _) = _
  rw [if_neg (by decide)]
  exact bdk (x := (0 : Int)) rfl rfl
theorem w_no {i : Nat} (hB : ∀ k, 0 ≤ B k ∧ B k < 256) (hL : L ≤ 500) (hi : i < 12) (h : Pos B L j J) (hp : pw B L j i = false) : ∃ J', D_X9_isRuleWord 1170 (2 + i) (st true n d J V r) = some (0, st true n d J' V r) ∧ MC J J' ∧ Pos B L j J' ∧ MX B L j J' := by
  obtain ⟨J', e1, c1, h1⟩ := p_no (n := n) (d := d) (V := V) (r := r) hB hL hi h hp
  refine ⟨J', ?_, c1, h1⟩
  unfold D_X9_isRuleWord
  refine bdk z9T (bdk e1 ?_)
  show (if (0 : Int) ≠ 0 then _ else _) = _
  rw [if_neg (by decide)]
  exact bdk (x := (0 : Int)) rfl rfl
theorem En.mono {q q' : Nat} (h : En B L q I J) (hq : q' ≤ q) : En B L q' I J := h.imp (fun ⟨a, ns, np, nr, h1, h2⟩ => ⟨a, ns, np, nr, by omega, h2⟩) id
/-- a rule's line -/
theorem t_word {i : Nat} {cd ph : Int} {F : mS → Option mS} (hB : ∀ k, 0 ≤ B k ∧ B k < 256) (hL : L ≤ 500) (hi : i < 12)
    (hr : ∀ (I J : Nat → Nat → Int), DR B ns np nr I J → N2 B L (we B L j) 0 vs I J → (J 1170 42 = 0 → nr < 24) → ∃ I' J', D_X2_readRule_37 111 cd ph (st true n c I W p) = some (st true n c I' W p) ∧ F (st true n d J V r) = some (st true n d J' V r) ∧ Out B L (we B L j) I J I' J')
    (hC : nr < 24 → ∀ I : Nat → Nat → Int, I 112 5 = (nr : Nat) → D_X2_readRule 111 cd (st true n c I W p) = D_X2_readRule_37 111 cd ph (st true n c I W p))
    (hD : DR B ns np nr I J) (h1 : CX B L (we B L j) I) (h6 : I 111 6 = (j : Nat)) (h : Pos B L j J) (h48 : J 1170 48 = 0) (hp : pw B L j i = true) :
    ∃ J2 I' J', D_X9_isRuleWord 1170 (2 + i) (st true n d J V r) = some (1, st true n d J2 V r) ∧ D_X2_readRule 111 cd (st true n c I W p) = some (st true n c I' W p) ∧ F (st true n d J2 V r) = some (st true n d J' V r) ∧ Out B L (we B L j) I J I' J' := by
  obtain ⟨J1, e1, c1, hm, h40⟩ := p_yes (n := n) (d := d) (V := V) (r := r) hB hL hi h hp
  have hD1 : DR B ns np nr I J1 := hD.cc CC.r c1.pn
  have n2 := hD1.2.1
  have n5 := hD.1.1.2.2.1
  have n24 := hD.1.1.2.2.2.2.2
  have hz : J 1170 42 = 0 := by obtain ⟨b, -, hmx⟩ := h; exact hmx.2
  by_cases hs : nr < 24
  · obtain ⟨I', J', a1, a2, a3⟩ := hr I J1 hD1 (Or.inl ⟨_, Nat.le_refl _, h1, hm, by rw [c1 _ _ (by omega)]; exact h48, by omega, fun k hk => absurd hk (by omega)⟩) (fun _ => hs)
    refine ⟨J1, I', J', ?_, (hC hs I n5).trans a1, a2, a3.pre CC.r c1.pn (St.o hz)⟩
    unfold D_X9_isRuleWord D_X9_isRuleWord_30
    refine bdk z9T (bdk e1 ?_)
    show (if (1 : Int) ≠ 0 then _ else _) = _
    rw [if_pos (by decide)]
    refine bdk z9R3 (bdk (l3 (i := 2) (by decide)) ?_)
    rw [n2, if_pos (by omega)]
    exact bdk (x := (1 : Int)) rfl rfl
  · have e24 : nr = 24 := by omega
    have hf1 := h1.fl (k := 3) (pl := (j : Nat)) (by decide)
    have hf2 := hm.wr (k := 3) (pl := (j : Nat)) (by decide)
    have hD2 : DR B ns np nr (cfl I 3 (j : Nat)) (wro J1 3 (j : Nat)) := hD1.cc CC.fl MC.w.pn
    obtain ⟨I', J', a1, a2, a3, a4, a5, a6⟩ := hr (cfl I 3 (j : Nat)) (wro J1 3 (j : Nat)) hD2 (Or.inr ⟨_, _, hf1, hf2⟩) (fun w => absurd w hf2.nz)
    have hst := a6 hf2.nz
    have hb : Bad B L (cfl I 3 (j : Nat)) J' := by
      rcases a5 with ⟨a', -, -, -, -, -, hx, -⟩ | ⟨k0, pl0, -, g2⟩
      · exact absurd hx.2 (by rw [hst.1]; exact hf2.nz)
      · refine ⟨3, (j : Nat), hf1, g2.1, ⟨?_, by decide⟩, ?_⟩
        · rw [hst.1]; exact hf2.2.1.1
        · rw [hst.2]; exact hf2.2.2
    refine ⟨wro J1 3 (j : Nat), cfl I 3 (j : Nat), J', ?_, ?_, a2, CC.fl.pd, Fr.trans' c1.pd (Fr.trans' MC.w.pd a4), Or.inr hb, St.o hz⟩
    · unfold D_X9_isRuleWord D_X9_isRuleWord_30
      refine bdk z9T (bdk e1 ?_)
      show (if (1 : Int) ≠ 0 then _ else _) = _
      rw [if_pos (by decide)]
      refine bdk z9R3 (bdk (l3 (i := 2) (by decide)) ?_)
      rw [n2, if_neg (by omega)]
      refine bdk z9I (bdk z9T ?_)
      rw [h40]
      exact bdk (m_wrong hm.2) (bdk (x := (1 : Int)) rfl rfl)
    · unfold D_X2_readRule
      refine bdk y2R0 (bdk (t5I TB112) ?_)
      rw [n5, if_neg (by omega)]
      refine bdk y2I (bdk y2T ?_)
      rw [h6]
      exact bdk (c_fail h1.2.2.1) rfl
/-- the desk's word -/
theorem c_line {x1 : Int} (hL : L ≤ 500) (h1 : CX B L a I) : ∃ I1, CC I I1 ∧ I1 111 6 = (sk B L a : Nat) ∧
    ((∃ i, i < 12 ∧ pw B L (sk B L a) i = true ∧ (∀ t, t < 12 → t ≠ i → pw B L (sk B L a) t = false) ∧ CX B L (we B L (sk B L a)) I1 ∧ D_X2_readLine 111 x1 (st true n c I W p) = if x1 = 0 then D_X2_readLine_34 111 x1 (i : Int) (st true n c I1 W p) else if (i : Int) = 6 then D_X2_readLine_34 111 x1 (i : Int) (st true n c I1 W p) else D_X2_readLine_24 111 (st true n c I1 W p)) ∨
     ((∀ t, t < 12 → pw B L (sk B L a) t = false) ∧ D_X2_readLine 111 x1 (st true n c I W p) = D_X2_readLine_24 111 (st true n c I1 W p) ∧ (CX B L (we B L (sk B L a)) I1 ∨ CF B L 1 (sk B L a : Nat) I1))) := by
  obtain ⟨I1, e1, c1, h6, hw⟩ := c_word (n := n) (c := c) (W := W) (p := p) hL h1
  refine ⟨I1, c1, h6, ?_⟩
  rcases hw with ⟨hl, hx, h7⟩ | ⟨hl, hf, h7⟩
  · have ek := c_keyword (n := n) (c := c) (W := W) (p := p) hL hx.1 h6 h7 we_ge hx.2.2.2.2
    rcases kw_spec (B := B) (j := sk B L a) (e := we B L (sk B L a)) 12 0 (by omega) with ⟨k1, k2⟩ | ⟨t, k1, -, k3, k4⟩
    · refine Or.inr ⟨fun t ht => by unfold pw; rw [hl, k2 t (by omega) ht]; rfl, ?_, Or.inl hx⟩
      unfold D_X2_readLine
      refine bdk y2T (bdk e1 (bdk y2T (bdk ek ?_)))
      rw [k1, if_pos rfl]
    · refine Or.inl ⟨t, k3, by unfold pw; rw [hl, k4]; rfl, fun t' h1 h2 => ?_, hx, ?_⟩
      · unfold pw
        cases hw : wq B (sk B L a) (we B L (sk B L a)) t'
        · rw [hl]; rfl
        · exact absurd (wq_uniq h1 k3 hw k4) h2
      · unfold D_X2_readLine
        refine bdk y2T (bdk e1 (bdk y2T (bdk ek ?_)))
        rw [k1, if_neg (by omega)]
  · have ek := c_keyword (n := n) (c := c) (W := W) (p := p) hL hf.1 h6 h7 (Nat.le_refl _) (sk_le h1.2.2.2.2)
    rcases kw_spec (B := B) (j := sk B L a) (e := sk B L a) 12 0 (by omega) with ⟨k1, k2⟩ | ⟨t, k1, -, k3, k4⟩
    · refine Or.inr ⟨fun t ht => by unfold pw; rw [hl]; rfl, ?_, Or.inr hf⟩
      unfold D_X2_readLine
      refine bdk y2T (bdk e1 (bdk y2T (bdk ek ?_)))
      rw [k1, if_pos rfl]
    · rw [wq_no (Nat.le_refl _) k3] at k4
      exact absurd k4 (by decide)
theorem l34_r {i : Nat} {x1 : Int} {σ : mS} (hi : i < 6) (h : D_X2_readRule 111 (i : Int) (st true n c I W p) = some σ) : D_X2_readLine_34 111 x1 (i : Int) (st true n c I W p) = some σ := by
  unfold D_X2_readLine_34
  rw [if_neg (by omega), if_neg (by omega), if_neg (by omega), if_neg (by omega), if_neg (by omega), if_neg (by omega)]
  exact bdk y2T (bdk h rfl)
theorem l34_6 {x1 : Int} {σ : mS} (h : D_X2_readCurve 111 x1 (st true n c I W p) = some σ) : D_X2_readLine_34 111 x1 ((6 : Nat) : Int) (st true n c I W p) = some σ := by
  unfold D_X2_readLine_34
  rw [if_pos (by decide)]
  exact bdk y2T (bdk h rfl)
theorem l34_7 {x1 : Int} {σ : mS} (h : D_X2_readSample 111 (st true n c I W p) = some σ) : D_X2_readLine_34 111 x1 ((7 : Nat) : Int) (st true n c I W p) = some σ := by
  unfold D_X2_readLine_34
  rw [if_neg (by decide), if_pos (by decide)]
  exact bdk y2T (bdk h rfl)
theorem l34_8 {x1 : Int} {σ : mS} (h : D_X2_readRings 111 (st true n c I W p) = some σ) : D_X2_readLine_34 111 x1 ((8 : Nat) : Int) (st true n c I W p) = some σ := by
  unfold D_X2_readLine_34
  rw [if_neg (by decide), if_neg (by decide), if_pos (by decide)]
  exact bdk y2T (bdk h rfl)
theorem l34_9 {x1 : Int} {σ : mS} (h : D_X2_readPhase 111 (st true n c I W p) = some σ) : D_X2_readLine_34 111 x1 ((9 : Nat) : Int) (st true n c I W p) = some σ := by
  unfold D_X2_readLine_34
  rw [if_neg (by decide), if_neg (by decide), if_neg (by decide), if_pos (by decide)]
  exact bdk y2T (bdk h rfl)
theorem l34_10 {x1 : Int} {σ : mS} (h : D_X2_readSigma 111 (st true n c I W p) = some σ) : D_X2_readLine_34 111 x1 ((10 : Nat) : Int) (st true n c I W p) = some σ := by
  unfold D_X2_readLine_34
  rw [if_neg (by decide), if_neg (by decide), if_neg (by decide), if_neg (by decide), if_pos (by decide)]
  exact bdk y2T (bdk h rfl)
theorem l34_11 {x1 : Int} {σ : mS} (h : D_X2_readReserve 111 (st true n c I W p) = some σ) : D_X2_readLine_34 111 x1 ((11 : Nat) : Int) (st true n c I W p) = some σ := by
  unfold D_X2_readLine_34
  rw [if_neg (by decide), if_neg (by decide), if_neg (by decide), if_neg (by decide), if_neg (by decide), if_pos (by decide)]
  exact bdk y2T (bdk h rfl)
/-- a line behind the first -/
theorem t_line (hB : ∀ k, 0 ≤ B k ∧ B k < 256) (hL : L ≤ 500) (hD : DR B ns np nr I J) (h1 : CX B L a I) (h2 : MX B L b J) (hab : sk B L a = sk B L b) :
    ∃ I' J', D_X2_readLine 111 0 (st true n c I W p) = some (st true n c I' W p) ∧ D_X9_oneLine 1170 (st true n d J V r) = some (st true n d J' V r) ∧ Out B L a I J I' J' := by
  obtain ⟨I1, cI, h6, hcl⟩ := c_line (n := n) (c := c) (W := W) (p := p) (x1 := 0) hL h1
  have hjJ : Pos B L (sk B L a) (u2 J 1170 48 0) := ⟨b, hab.symm, h2.fr (fun x y w => u2_ne _ _ (by omega))⟩
  have fJ : Fr PNm J (u2 J 1170 48 0) := fun x y w => u2_ne _ _ (fun t => w (by unfold PNm; omega))
  have h48 : u2 J 1170 48 0 1170 48 = 0 := u2_eq ..
  have hDJ : DR B ns np nr I1 (u2 J 1170 48 0) := hD.cc cI fJ
  have h49 : u2 J 1170 48 0 1170 49 ≠ 0 := by
    obtain ⟨-, -, -, -, b1, b2, b3⟩ := hDJ
    rw [b3]
    omega
  have eo : ∀ R, D_X9_oneLine_39 1170 (st true n d (u2 J 1170 48 0) V r) = R → D_X9_oneLine 1170 (st true n d J V r) = R := by
    intro R hR
    unfold D_X9_oneLine
    refine bdk z9P (bdk z9I ?_)
    rw [if_pos h49]
    exact hR
  have hae : a ≤ we B L (sk B L a) := Nat.le_trans sk_ge we_ge
  have fin : ∀ {I' J' J2 : Nat → Nat → Int}, MC (u2 J 1170 48 0) J2 → Out B L (we B L (sk B L a)) I1 J2 I' J' → Out B L a I J I' J' := fun hm ho => ⟨Fr.trans' cI.pd ho.1, Fr.trans' (PN.pd fJ) (Fr.trans' hm.pd ho.2.1), ho.2.2.1.mono hae, St.o h2.2⟩
  generalize hj : sk B L a = j at *
  generalize hJs : u2 J 1170 48 0 = Js at *
  have dn : ∀ {J2 : Nat → Nat → Int}, MC Js J2 → DR B ns np nr I1 J2 ∧ J2 1170 48 = 0 := fun hm => ⟨hDJ.cc CC.r hm.pn, by rw [hm _ _ (by omega)]; exact h48⟩
  have e39 : ∀ R, ((tgO (st true n d Js V r) 1170 8).bind fun _ => (D_X9_once 1170 (2 + 6) 0 (st true n d Js V r)).bind fun r2 => _) = R → D_X9_oneLine_39 1170 (st true n d Js V r) = R := fun R hR => bdk z9I ((if_pos h49).trans hR)
  have gO : ∀ {i : Nat}, i < 12 → pw B L j i = true → (CX B L (we B L j) I1 ∧ D_X2_readLine 111 0 (st true n c I W p) = D_X2_readLine_34 111 0 (i : Int) (st true n c I1 W p)) := by
    intro i hi hp
    rcases hcl with ⟨i', h1', h2', h3', h4', h5'⟩ | ⟨h3', -⟩
    · by_cases z : i = i'
      · subst z
        rw [if_pos rfl] at h5'
        exact ⟨h4', h5'⟩
      · rw [h3' i hi z] at hp
        exact absurd hp (by decide)
    · rw [h3' i hi] at hp
      exact absurd hp (by decide)
  cases p6 : pw B L j 6 with
  | true =>
    obtain ⟨hx, hc⟩ := gO (i := 6) (by decide) p6
    obtain ⟨J1, e1, c1, hm, h40⟩ := p_yes (n := n) (d := d) (V := V) (r := r) hB hL (by decide) hjJ p6
    obtain ⟨I', J2, J', a1, a2, a3, a4⟩ := b_curve2 (n := n) (c := c) (d := d) (W := W) (V := V) (p := p) (r := r) hB hL (dn c1).1 hx hm (h6.trans h40.symm) e1
    refine ⟨I', J', hc.trans (l34_6 a1), eo _ (e39 _ (bdk z9T (bdk a2 ?_))), fin c1 a4⟩
    show (if (1 : Int) = 0 then _ else _) = _
    rw [if_neg (by decide)]
    exact a3
  | false =>
  obtain ⟨K1, e1, c1, q1, -⟩ := o_no (n := n) (d := d) (V := V) (r := r) (f := 0) hB hL (by decide) hjJ p6
  have e39' := fun R hR => e39 R (bdk z9T (bdk e1 ((if_pos rfl).trans (bdk z9T hR))))
  cases p7 : pw B L j 7 with
  | true =>
    obtain ⟨hx, hc⟩ := gO (i := 7) (by decide) p7
    obtain ⟨J1, e2, c2, hm, h40⟩ := p_yes (n := n) (d := d) (V := V) (r := r) hB hL (by decide) q1 p7
    have cc := c1.t c2
    obtain ⟨I', J2, J', a1, a2, a3, a4⟩ := b_dated (n := n) (c := c) (d := d) (W := W) (V := V) (p := p) (r := r) hB hL (dn cc).1 hx hm (dn cc).2 (h6.trans h40.symm)
    exact ⟨I', J', hc.trans (l34_7 a1), eo _ (e39' _ (bdk e2 ((if_neg (show ¬ (1 : Int) = 0 by decide)).trans (bdk z9T (bdk a2 a3))))), fin cc a4⟩
  | false =>
  obtain ⟨K2, e2, c2, q2, -⟩ := p_no (n := n) (d := d) (V := V) (r := r) hB hL (by decide) q1 p7
  have e39'' := fun R hR => e39' R (bdk e2 ((if_pos rfl).trans (bdk z9T hR)))
  have cc2 := c1.t c2
  cases p8 : pw B L j 8 with
  | true =>
    obtain ⟨hx, hc⟩ := gO (i := 8) (by decide) p8
    obtain ⟨J1, e3, c3, hm, h40⟩ := p_yes (n := n) (d := d) (V := V) (r := r) hB hL (by decide) q2 p8
    have cc := cc2.t c3
    obtain ⟨I', J2, J', a1, a2, a3, a4⟩ := b_ringed (n := n) (c := c) (d := d) (W := W) (V := V) (p := p) (r := r) hB hL (dn cc).1 hx hm (dn cc).2 (h6.trans h40.symm)
    exact ⟨I', J', hc.trans (l34_8 a1), eo _ (e39'' _ (bdk e3 ((if_neg (show ¬ (1 : Int) = 0 by decide)).trans (bdk z9T (bdk a2 a3))))), fin cc a4⟩
  | false =>
  obtain ⟨K3, e3, c3, q3, -⟩ := p_no (n := n) (d := d) (V := V) (r := r) hB hL (by decide) q2 p8
  have f3 := fun R hR => e39'' R (bdk e3 ((if_pos rfl).trans (bdk z9T hR)))
  have cc3 := cc2.t c3
  cases p0 : pw B L j 0 with
  | true =>
    obtain ⟨hx, hc⟩ := gO (i := 0) (by decide) p0
    obtain ⟨J2, I', J', a1, a2, a3, a4⟩ := t_word (n := n) (c := c) (d := d) (W := W) (V := V) (p := p) (r := r) (i := 0) (cd := 0) (ph := 0) (vs := fun _ => 0) (F := fun σ => (D_X9_beforeLine 1170 σ).bind fun r39 => D_X9_oneLine_397 1170 r39) hB hL (by decide) (fun I J hd hn hs => by
      obtain ⟨I', J1, J', y1, y2, y3, y4⟩ := r_before (n := n) (c := c) (d := d) (W := W) (V := V) (p := p) (r := r) hB hL hd hn hs
      exact ⟨I', J', y1, bdk y2 y3, y4⟩) (fun hs I hI => bdk y2R0 (bdk (t5I TB112) (by rw [hI, if_pos (by omega), if_neg (by decide), if_pos (by decide)]))) (dn cc3).1 hx h6 q3 (dn cc3).2 p0
    exact ⟨I', J', hc.trans (l34_r (by decide) a2), eo _ (f3 _ (bdk a1 ((if_neg (show ¬ (1 : Int) = 0 by decide)).trans (bdk z9T a3)))), fin cc3 a4⟩
  | false =>
  obtain ⟨K4, e4, c4, q4, -⟩ := w_no (n := n) (d := d) (V := V) (r := r) hB hL (by decide) q3 p0
  have f4 := fun R hR => f3 R (bdk e4 ((if_pos rfl).trans (bdk z9T hR)))
  have cc4 := cc3.t c4
  cases p1 : pw B L j 1 with
  | true =>
    obtain ⟨hx, hc⟩ := gO (i := 1) (by decide) p1
    obtain ⟨J2, I', J', a1, a2, a3, a4⟩ := t_word (n := n) (c := c) (d := d) (W := W) (V := V) (p := p) (r := r) (i := 1) (cd := 1) (ph := 0) (vs := fun _ => 0) (F := fun σ => (D_X9_known 1170 0 σ).bind fun r36 => (tgO r36.2 1170 8).bind fun _ => (D_X9_known 1170 0 r36.2).bind fun r37 => (tgO r37.2 1170 8).bind fun _ => (D_X9_lays_ 1170 1 r36.1 r37.1 0 ((-1)) r37.2).bind fun r38 => D_X9_oneLine_397 1170 r38) hB hL (by decide) (fun I J hd hn hs => r_same (n := n) (c := c) (d := d) (W := W) (V := V) (p := p) (r := r) hB hL hd hn hs) (fun hs I hI => bdk y2R0 (bdk (t5I TB112) (by rw [hI, if_pos (by omega), if_neg (by decide), if_pos (by decide)]))) (dn cc4).1 hx h6 q4 (dn cc4).2 p1
    exact ⟨I', J', hc.trans (l34_r (by decide) a2), eo _ (f4 _ (bdk a1 ((if_neg (show ¬ (1 : Int) = 0 by decide)).trans (bdk z9T a3)))), fin cc4 a4⟩
  | false =>
  obtain ⟨K5, e5, c5, q5, -⟩ := w_no (n := n) (d := d) (V := V) (r := r) hB hL (by decide) q4 p1
  have f5 := fun R hR => f4 R (bdk e5 ((if_pos rfl).trans (bdk z9T hR)))
  have cc5 := cc4.t c5
  cases p2 : pw B L j 2 with
  | true =>
    obtain ⟨hx, hc⟩ := gO (i := 2) (by decide) p2
    obtain ⟨J2, I', J', a1, a2, a3, a4⟩ := t_word (n := n) (c := c) (d := d) (W := W) (V := V) (p := p) (r := r) (i := 2) (cd := 2) (ph := 0) (vs := fun _ => 0) (F := fun σ => (D_X9_known 1170 0 σ).bind fun r36 => (tgO r36.2 1170 8).bind fun _ => (D_X9_number 1170 0 999 r36.2).bind fun r34 => (tgO r34.2 1170 8).bind fun _ => (D_X9_lays_ 1170 2 r36.1 ((-1)) r34.1 ((-1)) r34.2).bind fun r35 => D_X9_oneLine_397 1170 r35) hB hL (by decide) (fun I J hd hn hs => r_after (n := n) (c := c) (d := d) (W := W) (V := V) (p := p) (r := r) (Or.inl rfl) hB hL hd hn hs) (fun hs I hI => bdk y2R0 (bdk (t5I TB112) (by rw [hI, if_pos (by omega), if_neg (by decide), if_pos (by decide)]))) (dn cc5).1 hx h6 q5 (dn cc5).2 p2
    exact ⟨I', J', hc.trans (l34_r (by decide) a2), eo _ (f5 _ (bdk a1 ((if_neg (show ¬ (1 : Int) = 0 by decide)).trans (bdk z9T a3)))), fin cc5 a4⟩
  | false =>
  obtain ⟨K6, e6, c6, q6, -⟩ := w_no (n := n) (d := d) (V := V) (r := r) hB hL (by decide) q5 p2
  have f6 := fun R hR => f5 R (bdk e6 ((if_pos rfl).trans (bdk z9T hR)))
  have cc6 := cc5.t c6
  cases p3 : pw B L j 3 with
  | true =>
    obtain ⟨hx, hc⟩ := gO (i := 3) (by decide) p3
    obtain ⟨J2, I', J', a1, a2, a3, a4⟩ := t_word (n := n) (c := c) (d := d) (W := W) (V := V) (p := p) (r := r) (i := 3) (cd := 3) (ph := 0) (vs := fun _ => 0) (F := fun σ => (D_X9_known 1170 0 σ).bind fun r36 => (tgO r36.2 1170 8).bind fun _ => (D_X9_number 1170 0 999 r36.2).bind fun r34 => (tgO r34.2 1170 8).bind fun _ => (D_X9_lays_ 1170 3 r36.1 ((-1)) r34.1 ((-1)) r34.2).bind fun r35 => D_X9_oneLine_397 1170 r35) hB hL (by decide) (fun I J hd hn hs => r_after (n := n) (c := c) (d := d) (W := W) (V := V) (p := p) (r := r) (Or.inr rfl) hB hL hd hn hs) (fun hs I hI => bdk y2R0 (bdk (t5I TB112) (by rw [hI, if_pos (by omega), if_neg (by decide), if_pos (by decide)]))) (dn cc6).1 hx h6 q6 (dn cc6).2 p3
    exact ⟨I', J', hc.trans (l34_r (by decide) a2), eo _ (f6 _ (bdk a1 ((if_neg (show ¬ (1 : Int) = 0 by decide)).trans (bdk z9T a3)))), fin cc6 a4⟩
  | false =>
  obtain ⟨K7, e7, c7, q7, -⟩ := w_no (n := n) (d := d) (V := V) (r := r) hB hL (by decide) q6 p3
  have f7 := fun R hR => f6 R (bdk e7 ((if_pos rfl).trans (bdk z9T hR)))
  have cc7 := cc6.t c7
  cases p9 : pw B L j 9 with
  | true =>
    obtain ⟨hx, hc⟩ := gO (i := 9) (by decide) p9
    obtain ⟨J1, e8, c8, hm, h40⟩ := p_yes (n := n) (d := d) (V := V) (r := r) hB hL (by decide) q7 p9
    have cc := cc7.t c8
    obtain ⟨I', J2, J', a1, a2, a3, a4⟩ := b_phase (n := n) (c := c) (d := d) (W := W) (V := V) (p := p) (r := r) hB hL (dn cc).1 hx hm (dn cc).2 (h6.trans h40.symm)
    exact ⟨I', J', hc.trans (l34_9 a1), eo _ (f7 _ (bdk e8 ((if_neg (show ¬ (1 : Int) = 0 by decide)).trans (bdk z9T (bdk a2 a3))))), fin cc a4⟩
  | false =>
  obtain ⟨K8, e8, c8, q8, -⟩ := p_no (n := n) (d := d) (V := V) (r := r) hB hL (by decide) q7 p9
  have f8 := fun R hR => f7 R (bdk e8 ((if_pos rfl).trans (bdk z9T hR)))
  have cc8 := cc7.t c8
  cases p4 : pw B L j 4 with
  | true =>
    obtain ⟨hx, hc⟩ := gO (i := 4) (by decide) p4
    obtain ⟨J2, I', J', a1, a2, a3, a4⟩ := t_word (n := n) (c := c) (d := d) (W := W) (V := V) (p := p) (r := r) (i := 4) (cd := 4) (ph := 1) (vs := fun _ => 0) (F := fun σ => (D_X9_known 1170 1 σ).bind fun r36 => (tgO r36.2 1170 8).bind fun _ => (D_X9_known 1170 1 r36.2).bind fun r26 => (tgO r26.2 1170 8).bind fun _ => (D_X9_isDigit 1170 r26.2).bind fun r27 => if r27.1 = 0 then D_X9_oneLine_296 1170 0 r26.1 r36.1 4 1170 r27.2 else (tgO r27.2 1170 8).bind fun _ => (D_X9_number 1170 0 999 r27.2).bind fun r28 => D_X9_oneLine_296 1170 r28.1 r26.1 r36.1 4 1170 r28.2) hB hL (by decide) (fun I J hd hn hs => r_order (n := n) (c := c) (d := d) (W := W) (V := V) (p := p) (r := r) hB hL hd hn hs) (fun hs I hI => bdk y2R0 (bdk (t5I TB112) (by rw [hI, if_pos (by omega), if_pos rfl]; rfl))) (dn cc8).1 hx h6 q8 (dn cc8).2 p4
    exact ⟨I', J', hc.trans (l34_r (by decide) a2), eo _ (f8 _ (bdk a1 ((if_neg (show ¬ (1 : Int) = 0 by decide)).trans (bdk z9T a3)))), fin cc8 a4⟩
  | false =>
  obtain ⟨K9, e9, c9, q9, -⟩ := w_no (n := n) (d := d) (V := V) (r := r) hB hL (by decide) q8 p4
  have f9 := fun R hR => f8 R (bdk e9 ((if_pos rfl).trans (bdk z9T hR)))
  have cc9 := cc8.t c9
  cases p5 : pw B L j 5 with
  | true =>
    obtain ⟨hx, hc⟩ := gO (i := 5) (by decide) p5
    obtain ⟨J2, I', J', a1, a2, a3, a4⟩ := t_word (n := n) (c := c) (d := d) (W := W) (V := V) (p := p) (r := r) (i := 5) (cd := 5) (ph := 1) (vs := fun _ => 0) (F := fun σ => (D_X9_known 1170 1 σ).bind fun r36 => (tgO r36.2 1170 8).bind fun _ => (D_X9_number 1170 0 999 r36.2).bind fun r34 => (tgO r34.2 1170 8).bind fun _ => (D_X9_lays_ 1170 5 r36.1 ((-1)) r34.1 ((-1)) r34.2).bind fun r35 => D_X9_oneLine_397 1170 r35) hB hL (by decide) (fun I J hd hn hs => r_lasts (n := n) (c := c) (d := d) (W := W) (V := V) (p := p) (r := r) hB hL hd hn hs) (fun hs I hI => bdk y2R0 (bdk (t5I TB112) (by rw [hI, if_pos (by omega), if_neg (by decide), if_neg (by decide)]; rfl))) (dn cc9).1 hx h6 q9 (dn cc9).2 p5
    exact ⟨I', J', hc.trans (l34_r (by decide) a2), eo _ (f9 _ (bdk a1 ((if_neg (show ¬ (1 : Int) = 0 by decide)).trans (bdk z9T a3)))), fin cc9 a4⟩
  | false =>
  obtain ⟨K10, e10, c10, q10, -⟩ := w_no (n := n) (d := d) (V := V) (r := r) hB hL (by decide) q9 p5
  have f10 := fun R hR => f9 R (bdk e10 ((if_pos rfl).trans (bdk z9T hR)))
  have cc10 := cc9.t c10
  cases p10 : pw B L j 10 with
  | true =>
    obtain ⟨hx, hc⟩ := gO (i := 10) (by decide) p10
    obtain ⟨J1, e11, c11, hm, h40⟩ := p_yes (n := n) (d := d) (V := V) (r := r) hB hL (by decide) q10 p10
    have cc := cc10.t c11
    obtain ⟨I', J2, J', a1, a2, a3, a4⟩ := b_sigma (n := n) (c := c) (d := d) (W := W) (V := V) (p := p) (r := r) hB hL (dn cc).1 hx hm (h6.trans h40.symm) e11
    exact ⟨I', J', hc.trans (l34_10 a1), eo _ (f10 _ (bdk a2 ((if_neg (show ¬ (1 : Int) = 0 by decide)).trans (bdk z9R3 (bdk z9T a3))))), fin cc a4⟩
  | false =>
  obtain ⟨K11, e11, c11, q11, -⟩ := o_no (n := n) (d := d) (V := V) (r := r) (f := 1) hB hL (by decide) q10 p10
  have f11 := fun R hR => f10 R (bdk e11 ((if_pos rfl).trans (bdk z9T hR)))
  have cc11 := cc10.t c11
  cases p11 : pw B L j 11 with
  | true =>
    obtain ⟨hx, hc⟩ := gO (i := 11) (by decide) p11
    obtain ⟨J1, e12, c12, hm, h40⟩ := p_yes (n := n) (d := d) (V := V) (r := r) hB hL (by decide) q11 p11
    have cc := cc11.t c12
    obtain ⟨I', J2, J', a1, a2, a3, a4⟩ := b_reserve (n := n) (c := c) (d := d) (W := W) (V := V) (p := p) (r := r) hB hL (dn cc).1 hx hm (h6.trans h40.symm) e12
    exact ⟨I', J', hc.trans (l34_11 a1), eo _ (f11 _ (bdk a2 ((if_neg (show ¬ (1 : Int) = 0 by decide)).trans (bdk z9R3 (bdk z9T a3))))), fin cc a4⟩
  | false =>
  obtain ⟨K12, e12, c12, -, hm⟩ := o_no (n := n) (d := d) (V := V) (r := r) (f := 2) hB hL (by decide) q11 p11
  have cc12 := cc11.t c12
  have none : ∀ i, i < 12 → pw B L j i = false := fun i hi => by
    have : i = 0 ∨ i = 1 ∨ i = 2 ∨ i = 3 ∨ i = 4 ∨ i = 5 ∨ i = 6 ∨ i = 7 ∨ i = 8 ∨ i = 9 ∨ i = 10 ∨ i = 11 := by omega
    rcases this with rfl | rfl | rfl | rfl | rfl | rfl | rfl | rfl | rfl | rfl | rfl | rfl <;> assumption
  have hf2 := hm.wr (k := 1) (pl := (j : Nat)) (by decide)
  have er : D_X9_oneLine 1170 (st true n d J V r) = some (st true n d (wro K12 1 (j : Nat)) V r) := by
    refine eo _ (f11 _ (bdk e12 ((if_pos rfl).trans (bdk z9I (bdk z9T ?_)))))
    rw [hm.1.2.2.1]
    exact bdk (m_wrong hm.2) (o397 (m_mustF hf2))
  rcases hcl with ⟨i, hi, hp, -⟩ | ⟨-, hc, hx⟩
  · rw [none i hi] at hp
    exact absurd hp (by decide)
  · rcases hx with hx | hx
    · refine ⟨cfl I1 1 (j : Nat), _, hc.trans ?_, er, fin cc12 ⟨CC.fl.pd, MC.w.pd, Or.inr ⟨1, (j : Nat), hx.fl (by decide), hf2⟩, St.o hm.2⟩⟩
      unfold D_X2_readLine_24
      refine bdk y2I (bdk y2T ?_)
      rw [h6]
      exact bdk (c_fail hx.2.2.1) rfl
    · refine ⟨I1, _, hc.trans ?_, er, fin cc12 ⟨CC.r.pd, MC.w.pd, Or.inr ⟨1, (j : Nat), hx, hf2⟩, St.o hm.2⟩⟩
      unfold D_X2_readLine_24
      exact bdk y2I (bdk y2T (bdk (c_failF hx.nz) rfl))
end LS
