/-! THE PURE PART: names that are known, on both sides -/
section KN
variable {n : Nat} {c : Nat × Nat × Nat × Nat} {I : Nat → Nat → Int} {W : Nat → Nat → BitVec 64} {p : Nat → Nat} {B : Nat → Int} {L a b : Nat} {k pl : Int}
/-- the row of a name, by whether it is a phase's -/
def rowOf (ph : Int) (k : Nat) : Nat := if ph = 0 then k else 12 + k
theorem m_known59 {ph : Int} {j m : Nat} {nm : Nat → Int} (hB : ∀ k, 0 ≤ B k ∧ B k < 256) (hL : L ≤ 500) (h : MT B L b I) (hm : m ≤ 12 ∧ (ph ≠ 0 → m ≤ 4)) (hN : ∀ k, k < m → NmM B I (rowOf ph k) (nm k)) (hj : nmOk B L j) (h41 : I 1170 41 = ((we B L j - j : Nat) : Int)) : ∀ (d i f : Nat), i + d = m → d < f →
    ∃ r : Unit ⊕ Int, D_X9_known_59 f 1170 ph (j : Int) (m : Int) (i : Nat) (st true n c I W p) = some r ∧ r.elim (fun _ => -1) id = fiN nm (nv B j (we B L j - j)) d i ∧ (r = Sum.inl () ∨ ∃ x : Int, r = Sum.inr x ∧ 0 ≤ x) := by
  have jl := nmOk_le hj
  have j1 := nmOk_1 hj
  intro d
  induction d with
  | zero =>
    intro i f hi hf
    obtain ⟨f, rfl⟩ : ∃ g, f = g + 1 := ⟨f - 1, by omega⟩
    exact ⟨Sum.inl (), if_pos (by omega), rfl, Or.inl rfl⟩
  | succ d ih =>
    intro i f hi hf
    obtain ⟨f, rfl⟩ : ∃ g, f = g + 1 := ⟨f - 1, by omega⟩
    have hr : rowOf ph i < 16 := by unfold rowOf; split <;> omega
    have en := m_isName (n := n) (c := c) (W := W) (p := p) (row := rowOf ph i) hB hL hr h (hN i (by omega)) ⟨j1, hj.2⟩ (nmOk_l hj) (by omega)
    have e0 : fiN nm (nv B j (we B L j - j)) (d + 1) i = if nm i = nv B j (we B L j - j) then (i : Int) else fiN nm (nv B j (we B L j - j)) d (i + 1) := rfl
    have pre : ∀ {R : Option (Unit ⊕ Int)}, (if bI (decide (nm i = nv B j (we B L j - j))) = 0 then D_X9_known_59 f 1170 ph (j : Int) (m : Int) ((i + 1 : Nat) : Int) (st true n c I W p) else some (Sum.inr (i : Int))) = R → D_X9_known_59 (f + 1) 1170 ph (j : Int) (m : Int) (i : Nat) (st true n c I W p) = R := by
      intro R hR
      have t80 : ∀ y0 : Int, y0 = ((rowOf ph i : Nat) : Int) → D_X9_known_80 (D_X9_known_59 f) 1170 ph (j : Int) (m : Int) (i : Int) y0 1170 (st true n c I W p) = R := by
        intro y0 hy
        subst hy
        unfold D_X9_known_80
        refine bdk z9I (bdk z9T ?_)
        rw [h41, mw_of (x := (j : Int) + ((we B L j - j : Nat) : Int)) (by omega) (by omega), show (j : Int) + ((we B L j - j : Nat) : Int) = ((j + (we B L j - j) : Nat) : Int) by omega]
        refine bdk en ?_
        rw [mw_n (by omega)]
        exact hR
      show (if (m : Int) ≤ (i : Nat) then _ else _) = _
      rw [if_neg (by omega)]
      by_cases q : ph = 0
      · rw [if_pos q]
        exact t80 _ (by unfold rowOf; rw [if_pos q])
      · rw [if_neg q]
        exact t80 _ (by unfold rowOf; rw [if_neg q, mw_of (by omega) (by omega)]; omega)
    rw [e0]
    by_cases z : nm i = nv B j (we B L j - j)
    · refine ⟨Sum.inr (i : Int), pre (by rw [decide_eq_true z]; rfl), by rw [if_pos z]; rfl, Or.inr ⟨_, rfl, by omega⟩⟩
    · obtain ⟨r, e1, e2, e3⟩ := ih (i + 1) f (by omega) (by omega)
      exact ⟨r, pre (by rw [decide_eq_false z]; exact e1), by rw [if_neg z]; exact e2, e3⟩
/-- what a name that is known may change -/
def PKn (m : Nat) (x y : Nat) : Prop := (x = 1170 ∧ 39 ≤ y ∧ y ≤ 43) ∨ (x = 1228 ∧ y = m) ∨ (x = 1170 ∧ y = 48)
theorem m_known {ph : Int} {q m cnt : Nat} {nm vs : Nat → Int} (hB : ∀ k, 0 ≤ B k ∧ B k < 256) (hL : L ≤ 500) (hp : ph = 0 ∨ ph = 1) (h : MX B L b I) (hc : cnt ≤ 12 ∧ (ph ≠ 0 → cnt ≤ 4)) (hN : ∀ k, k < cnt → NmM B I (rowOf ph k) (nm k)) (h4 : (if ph = 0 then I 1170 45 else I 1170 46) = (cnt : Nat)) (hk : LKs B L q m vs I) (hm : m < 8) (hq : q ≤ b) :
    ∃ x I', D_X9_known 1170 ph (st true n c I W p) = some (x, st true n c I' W p) ∧ Fr (PKn m) I I' ∧
      ((nmOk B L (sk B L b) ∧ (¬ ∃ i, i < m ∧ vs i = nv B (sk B L b) (we B L (sk B L b) - sk B L b)) ∧ fiN nm (nv B (sk B L b) (we B L (sk B L b) - sk B L b)) cnt 0 ≠ -1 ∧ x = fiN nm (nv B (sk B L b) (we B L (sk B L b) - sk B L b)) cnt 0 ∧ MX B L (we B L (sk B L b)) I' ∧ LKs B L (we B L (sk B L b)) (m + 1) (fun i => if i = m then nv B (sk B L b) (we B L (sk B L b) - sk B L b) else vs i) I') ∨
       (nmOk B L (sk B L b) ∧ (∃ i, i < m ∧ vs i = nv B (sk B L b) (we B L (sk B L b) - sk B L b)) ∧ x = 0 ∧ MF B L 4 (sk B L b : Nat) I') ∨
       (nmOk B L (sk B L b) ∧ (¬ ∃ i, i < m ∧ vs i = nv B (sk B L b) (we B L (sk B L b) - sk B L b)) ∧ fiN nm (nv B (sk B L b) (we B L (sk B L b) - sk B L b)) cnt 0 = -1 ∧ x = 0 ∧ MF B L 5 (sk B L b : Nat) I') ∨
       (¬ nmOk B L (sk B L b) ∧ x = 0 ∧ MF B L 1 (sk B L b : Nat) I')) := by
  obtain ⟨I1, e1, c1, h1⟩ := m_name (n := n) (c := c) (W := W) (p := p) hB hL h
  have fr1 : Fr (PKn m) I I1 := c1.mono (fun x y w => Or.inl w)
  have hsk := sk_ge (B := B) (L := L) (i := b)
  have hwe := we_ge (B := B) (L := L) (i := sk B L b)
  have f26 : ∀ {k pl x : Int} {J : Nat → Nat → Int}, MF B L k pl J → D_X9_known_26 1170 ph x (st true n c J W p) = some (0, st true n c J W p) := by
    intro k pl x J hf
    obtain ⟨-, ⟨z1, z2⟩, -⟩ := hf
    unfold D_X9_known_26
    refine bdk z9I ?_
    rw [z1, if_neg (by omega)]
  unfold D_X9_known
  rcases h1 with ⟨hok, hx, h41⟩ | ⟨hno, hf⟩
  · have hN1 : ∀ i, i < cnt → NmM B I1 (rowOf ph i) (nm i) := fun i hi => (hN i hi).fr (fun t _ => c1 _ _ (by omega))
    have hk1 := hk.fr (I' := I1) (q' := b) (c1 _ _ (by omega)) (fun k hk => c1 _ _ (by omega)) hq
    obtain ⟨t, et, ht⟩ := m_isTwice (n := n) (c := c) (W := W) (p := p) hB hL hx.1 hk1 hok hsk h41
    cases t with
    | true =>
      have htw := ht.1 rfl
      have hf := hx.wr (k := 4) (pl := (sk B L b : Nat)) (by decide)
      refine ⟨0, wro I1 4 (sk B L b : Nat), ?_, Fr.trans' fr1 (MC.w.mono (fun x y w => Or.inl w)), Or.inr (Or.inl ⟨hok, htw, rfl, hf⟩)⟩
      refine bdk z9T (bdk e1 (bdk z9I ?_))
      rw [hx.2, if_neg (by decide)]
      refine bdk z9T (bdk et ?_)
      show (if (1 : Int) = 0 then _ else _) = _
      rw [if_neg (by decide)]
      exact bdk z9T (bdk (m_wrong hx.2) (f26 hf))
    | false =>
      have hnt : ¬ ∃ i, i < m ∧ vs i = nv B (sk B L b) (we B L (sk B L b) - sk B L b) := fun w => absurd (ht.2 w) (by decide)
      obtain ⟨I2, e2, l2, f2⟩ := m_keeps (n := n) (c := c) (W := W) (p := p) hk1 hm hok (by omega)
      have hx2 : MX B L (we B L (sk B L b)) I2 := ⟨⟨fun k hk => by rw [f2 _ _ (by omega)]; exact hx.1.1 k hk, by rw [f2 _ _ (by omega)]; exact hx.1.2.1, by rw [f2 _ _ (by omega)]; exact hx.1.2.2.1, hx.1.2.2.2⟩, by rw [f2 _ _ (by omega)]; exact hx.2⟩
      have hN2 : ∀ i, i < cnt → NmM B I2 (rowOf ph i) (nm i) := fun i hi => (hN1 i hi).fr (fun t _ => f2 _ _ (by omega))
      obtain ⟨r, e3, r1, r2⟩ := m_known59 (n := n) (c := c) (W := W) (p := p) hB hL hx2.1 hc hN2 hok (by rw [f2 _ _ (by omega)]; exact h41) cnt 0 mFU (by omega) (by unfold mFU; omega)
      have fr2 : Fr (PKn m) I I2 := Fr.trans' fr1 (f2.mono (fun x y w => Or.inr w))
      have pre : ∀ {R : Option (Int × mS)}, (D_X9_known_55 1170 ph ((sk B L b : Nat) : Int) (cnt : Nat) (st true n c I2 W p) = R) → D_X9_known 1170 ph (st true n c I W p) = R := by
        intro R hR
        unfold D_X9_known
        refine bdk z9T (bdk e1 (bdk z9I ?_))
        rw [hx.2, if_neg (by decide)]
        refine bdk z9T (bdk et ?_)
        show (if (0 : Int) = 0 then _ else _) = _
        rw [if_pos rfl]
        unfold D_X9_known_26
        refine bdk z9I ?_
        rw [hx.2, if_pos (by decide)]
        refine bdk z9T (bdk e2 ?_)
        by_cases q : ph = 0
        · rw [if_pos q]
          rw [if_pos q] at h4
          refine bdk z9I ?_
          rw [f2 _ _ (by omega), c1 _ _ (by omega), h4]
          exact hR
        · rw [if_neg q]
          rw [if_neg q] at h4
          refine bdk z9I ?_
          rw [f2 _ _ (by omega), c1 _ _ (by omega), h4]
          exact hR
      have pre' := @pre
      unfold D_X9_known at pre'
      rcases r2 with rfl | ⟨x, rfl, x0⟩
      · have e0 : fiN nm (nv B (sk B L b) (we B L (sk B L b) - sk B L b)) cnt 0 = -1 := r1.symm
        have hf := hx2.wr (k := 5) (pl := (sk B L b : Nat)) (by decide)
        refine ⟨0, wro I2 5 (sk B L b : Nat), pre' ?_, Fr.trans' fr2 (MC.w.mono (fun x y w => Or.inl w)), Or.inr (Or.inr (Or.inl ⟨hok, hnt, e0, rfl, hf⟩))⟩
        unfold D_X9_known_55
        exact bdk e3 (bdk z9T (bdk (m_wrong hx2.2) rfl))
      · have e0 : x = fiN nm (nv B (sk B L b) (we B L (sk B L b) - sk B L b)) cnt 0 := r1
        refine ⟨x, I2, pre' ?_, fr2, Or.inl ⟨hok, hnt, by omega, e0, hx2, l2⟩⟩
        unfold D_X9_known_55
        exact bdk e3 rfl
  · refine ⟨0, I1, ?_, fr1, Or.inr (Or.inr (Or.inr ⟨hno, rfl, hf⟩))⟩
    refine bdk z9T (bdk e1 (bdk z9I ?_))
    rw [if_pos hf.nz]
    exact f26 hf
theorem m_knownF {ph : Int} (hB : ∀ k, 0 ≤ B k ∧ B k < 256) (hL : L ≤ 500) (h : MF B L k pl I) : ∃ I', D_X9_known 1170 ph (st true n c I W p) = some (0, st true n c I' W p) ∧ MC I I' ∧ MF B L k pl I' := by
  obtain ⟨x, I1, e1, c1, f1⟩ := m_nameF (n := n) (c := c) (W := W) (p := p) hB hL h
  refine ⟨I1, ?_, c1, f1⟩
  unfold D_X9_known D_X9_known_26
  refine bdk z9T (bdk e1 (bdk z9I ?_))
  rw [if_pos f1.nz]
  refine bdk z9I ?_
  obtain ⟨-, ⟨z1, z2⟩, -⟩ := id f1
  rw [z1, if_neg (by omega)]
/-! the desk's -/
theorem h186 : HC true 186 = (51, 12) := by decide +kernel
theorem h187 : HC true 187 = (51, 4) := by decide +kernel
/-- how many are told, on the desk -/
def NmsC (ns np nr : Nat) (I : Nat → Nat → Int) : Prop := I 112 3 = (ns : Nat) ∧ I 112 4 = (np : Nat) ∧ I 112 5 = (nr : Nat) ∧ ns ≤ 12 ∧ np ≤ 4 ∧ nr ≤ 24
theorem NmsC.fr {ns np nr : Nat} {I' : Nat → Nat → Int} (h : NmsC ns np nr I) (hf : ∀ y, I' 112 y = I 112 y) : NmsC ns np nr I' := by
  unfold NmsC at h ⊢
  rw [hf, hf, hf]
  exact h
theorem CC.ne {I' : Nat → Nat → Int} (h : CC I I') {x y : Nat} (hx : x ≠ 111) : I' x y = I x y := h x y (fun w => hx w.1)
theorem c_newName {ns np nr : Nat} (hL : L ≤ 500) (h : CX B L a I) (hN : NmsC ns np nr I) : ∃ v I', D_X2_readNewName 111 (st true n c I W p) = some (v, st true n c I' W p) ∧ CC I I' ∧
    ((nmOk B L (sk B L a) ∧ ¬ taken ns np (fun k => I 186 k) (fun k => I 187 k) (nv B (sk B L a) (we B L (sk B L a) - sk B L a)) ∧ v = nv B (sk B L a) (we B L (sk B L a) - sk B L a) ∧ CX B L (we B L (sk B L a)) I') ∨
     (nmOk B L (sk B L a) ∧ taken ns np (fun k => I 186 k) (fun k => I 187 k) (nv B (sk B L a) (we B L (sk B L a) - sk B L a)) ∧ CF B L 4 (sk B L a : Nat) I') ∨ (¬ nmOk B L (sk B L a) ∧ CF B L 1 (sk B L a : Nat) I')) := by
  obtain ⟨v, I1, e1, c1, h6, hw⟩ := c_name (n := n) (c := c) (W := W) (p := p) hL h
  have hN1 := hN.fr (I' := I1) (fun y => c1.ne (by omega))
  obtain ⟨n3, n4, n5, s12, p4, r24⟩ := hN1
  have eS := c_numberOf (n := n) (c := c) (I := I1) (W := W) (p := p) (v := v) (m := ns) h186 s12 (by decide)
  have eP := c_numberOf (n := n) (c := c) (I := I1) (W := W) (p := p) (v := v) (m := np) h187 p4 (by decide)
  have cS : (fun k => I1 186 k) = fun k => I 186 k := funext fun k => c1.ne (by omega)
  have cP : (fun k => I1 187 k) = fun k => I 187 k := funext fun k => c1.ne (by omega)
  rw [cS] at eS
  rw [cP] at eP
  have tk : taken ns np (fun k => I 186 k) (fun k => I 187 k) v ↔ fiN (fun k => I 186 k) v ns 0 ≠ -1 ∨ fiN (fun k => I 187 k) v np 0 ≠ -1 := by
    constructor
    · rintro (⟨k, k1, k2⟩ | ⟨k, k1, k2⟩)
      · refine Or.inl fun w => ?_
        rcases fi_spec (f := fun k => I 186 k) (v := v) ns 0 with ⟨-, h2⟩ | ⟨j, h1, -⟩
        · exact h2 k (Nat.zero_le k) (by omega) k2
        · omega
      · refine Or.inr fun w => ?_
        rcases fi_spec (f := fun k => I 187 k) (v := v) np 0 with ⟨-, h2⟩ | ⟨j, h1, -⟩
        · exact h2 k (Nat.zero_le k) (by omega) k2
        · omega
    · rintro (w | w)
      · rcases fi_spec (f := fun k => I 186 k) (v := v) ns 0 with ⟨h1, -⟩ | ⟨j, h1, h2, h3, h4⟩
        · exact absurd h1 w
        · exact Or.inl ⟨j, by omega, h4⟩
      · rcases fi_spec (f := fun k => I 187 k) (v := v) np 0 with ⟨h1, -⟩ | ⟨j, h1, h2, h3, h4⟩
        · exact absurd h1 w
        · exact Or.inr ⟨j, by omega, h4⟩
  have go : ∀ {R : Option (Int × mS)}, (if fiN (fun k => I 186 k) v ns 0 ≠ -1 ∨ fiN (fun k => I 187 k) v np 0 ≠ -1 then D_X2_readNewName_43 111 v (st true n c I1 W p) else some (v, st true n c I1 W p)) = R → D_X2_readNewName 111 (st true n c I W p) = R := by
    intro R hR
    unfold D_X2_readNewName D_X2_readNewName_52
    refine bdk y2T (bdk e1 (bdk y2R10 (bdk y2R0 (bdk (t5I TB112) ?_))))
    rw [n3]
    refine bdk eS ?_
    by_cases q : fiN (fun k => I 186 k) v ns 0 ≠ -1
    · rw [if_pos q]
      rw [if_pos (Or.inl q)] at hR
      exact hR
    · rw [if_neg q]
      refine bdk y2R11 (bdk y2R0 (bdk (t5I TB112) ?_))
      rw [n4]
      refine bdk eP ?_
      by_cases q2 : fiN (fun k => I 187 k) v np 0 = -1
      · rw [if_pos q2]
        rw [if_neg (fun w => w.elim q (fun z => z q2))] at hR
        exact hR
      · rw [if_neg q2]
        rw [if_pos (Or.inr q2)] at hR
        exact hR
  rcases hw with ⟨hok, rfl, hx⟩ | ⟨hno, hf⟩
  · by_cases q : fiN (fun k => I 186 k) (nv B (sk B L a) (we B L (sk B L a) - sk B L a)) ns 0 ≠ -1 ∨ fiN (fun k => I 187 k) (nv B (sk B L a) (we B L (sk B L a) - sk B L a)) np 0 ≠ -1
    · refine ⟨nv B (sk B L a) (we B L (sk B L a) - sk B L a), cfl I1 4 (sk B L a : Nat), go ?_, c1.t CC.fl, Or.inr (Or.inl ⟨hok, tk.2 q, hx.fl (by decide)⟩)⟩
      rw [if_pos q]
      unfold D_X2_readNewName_43 D_X2_readNewName_52
      refine bdk y2I (bdk y2T ?_)
      rw [h6]
      exact bdk (c_fail hx.2.2.1) rfl
    · refine ⟨nv B (sk B L a) (we B L (sk B L a) - sk B L a), I1, go ?_, c1, Or.inl ⟨hok, fun w => q (tk.1 w), rfl, hx⟩⟩
      rw [if_neg q]
  · refine ⟨v, I1, go ?_, c1, Or.inr (Or.inr ⟨hno, hf⟩)⟩
    by_cases q : fiN (fun k => I 186 k) v ns 0 ≠ -1 ∨ fiN (fun k => I 187 k) v np 0 ≠ -1
    · rw [if_pos q]
      unfold D_X2_readNewName_43 D_X2_readNewName_52
      exact bdk y2I (bdk y2T (bdk (c_failF hf.nz) rfl))
    · rw [if_neg q]
/-- a name that is known, on the desk: arr the row, cnt how many -/
theorem c_knownN {arr z cnt : Nat} {tw : Int} (hL : L ≤ 500) (ha : HC true arr = (51, z)) (hz : z ≤ 12) (hc : cnt ≤ z) (harr : arr ≠ 111) (h : CX B L a I) :
    ∃ v I1, D_X2_readName 111 (st true n c I W p) = some (v, st true n c I1 W p) ∧ CC I I1 ∧ D_X2_numberOf v arr (cnt : Nat) (st true n c I1 W p) = some (fiN (fun k => I arr k) v cnt 0) ∧
      ∃ I', D_X2_known 111 (fiN (fun k => I arr k) v cnt 0) tw (st true n c I1 W p) = some (fiN (fun k => I arr k) v cnt 0, st true n c I' W p) ∧ CC I I' ∧ (-1 ≤ fiN (fun k => I arr k) v cnt 0 ∧ fiN (fun k => I arr k) v cnt 0 < cnt) ∧
      ((nmOk B L (sk B L a) ∧ v = nv B (sk B L a) (we B L (sk B L a) - sk B L a) ∧ fiN (fun k => I arr k) v cnt 0 ≠ -1 ∧ fiN (fun k => I arr k) v cnt 0 ≠ tw ∧ CX B L (we B L (sk B L a)) I') ∨
       (nmOk B L (sk B L a) ∧ v = nv B (sk B L a) (we B L (sk B L a) - sk B L a) ∧ fiN (fun k => I arr k) v cnt 0 ≠ -1 ∧ fiN (fun k => I arr k) v cnt 0 = tw ∧ CF B L 4 (sk B L a : Nat) I') ∨
       (nmOk B L (sk B L a) ∧ v = nv B (sk B L a) (we B L (sk B L a) - sk B L a) ∧ fiN (fun k => I arr k) v cnt 0 = -1 ∧ CF B L 5 (sk B L a : Nat) I') ∨
       (¬ nmOk B L (sk B L a) ∧ CF B L 1 (sk B L a : Nat) I')) := by
  obtain ⟨v, I1, e1, c1, h6, hw⟩ := c_name (n := n) (c := c) (W := W) (p := p) hL h
  have eS := c_numberOf (n := n) (c := c) (I := I1) (W := W) (p := p) (v := v) (m := cnt) ha hc hz
  have cS : (fun k => I1 arr k) = fun k => I arr k := funext fun k => c1.ne harr
  rw [cS] at eS
  have rng : -1 ≤ fiN (fun k => I arr k) v cnt 0 ∧ fiN (fun k => I arr k) v cnt 0 < cnt := by
    rcases fi_spec (f := fun k => I arr k) (v := v) cnt 0 with ⟨w, -⟩ | ⟨j, w, w2, w3, -⟩ <;> omega
  refine ⟨v, I1, e1, c1, eS, ?_⟩
  generalize hx : fiN (fun k => I arr k) v cnt 0 = x at rng
  unfold D_X2_known D_X2_known_31
  rcases hw with ⟨hok, hv, hcx⟩ | ⟨hno, hf⟩
  · by_cases q : x = -1
    · refine ⟨cfl I1 5 (sk B L a : Nat), ?_, c1.t CC.fl, rng, Or.inr (Or.inr (Or.inl ⟨hok, hv, q, hcx.fl (by decide)⟩))⟩
      rw [if_neg (fun w => w q)]
      refine bdk y2I (bdk y2T ?_)
      rw [h6]
      exact bdk (c_fail hcx.2.2.1) rfl
    · by_cases q2 : x = tw
      · refine ⟨cfl I1 4 (sk B L a : Nat), ?_, c1.t CC.fl, rng, Or.inr (Or.inl ⟨hok, hv, q, q2, hcx.fl (by decide)⟩)⟩
        rw [if_pos q, if_neg (fun w => w q2)]
        refine bdk y2I (bdk y2T ?_)
        rw [h6]
        exact bdk (c_fail hcx.2.2.1) rfl
      · refine ⟨I1, ?_, c1, rng, Or.inl ⟨hok, hv, q, q2, hcx⟩⟩
        rw [if_pos q, if_pos q2]
  · refine ⟨I1, ?_, c1, rng, Or.inr (Or.inr (Or.inr ⟨hno, hf⟩))⟩
    by_cases q : x = -1
    · rw [if_neg (fun w => w q)]
      exact bdk y2I (bdk y2T (bdk (c_failF hf.nz) rfl))
    · rw [if_pos q]
      by_cases q2 : x = tw
      · rw [if_neg (fun w => w q2)]
        exact bdk y2I (bdk y2T (bdk (c_failF hf.nz) rfl))
      · rw [if_pos q2]
theorem c_sName {ns np nr : Nat} {tw : Int} (hL : L ≤ 500) (h : CX B L a I) (hN : NmsC ns np nr I) :
    ∃ x I', D_X2_readSampleName 111 tw (st true n c I W p) = some (x, st true n c I' W p) ∧ CC I I' ∧ (-1 ≤ x ∧ x < ns) ∧
      ((nmOk B L (sk B L a) ∧ x = fiN (fun k => I 186 k) (nv B (sk B L a) (we B L (sk B L a) - sk B L a)) ns 0 ∧ x ≠ -1 ∧ x ≠ tw ∧ CX B L (we B L (sk B L a)) I') ∨
       (nmOk B L (sk B L a) ∧ x = fiN (fun k => I 186 k) (nv B (sk B L a) (we B L (sk B L a) - sk B L a)) ns 0 ∧ x ≠ -1 ∧ x = tw ∧ CF B L 4 (sk B L a : Nat) I') ∨
       (nmOk B L (sk B L a) ∧ x = fiN (fun k => I 186 k) (nv B (sk B L a) (we B L (sk B L a) - sk B L a)) ns 0 ∧ x = -1 ∧ CF B L 5 (sk B L a : Nat) I') ∨
       (¬ nmOk B L (sk B L a) ∧ CF B L 1 (sk B L a : Nat) I')) := by
  obtain ⟨n3, n4, n5, s12, p4, r24⟩ := id hN
  obtain ⟨v, I1, e1, c1, eS, I', e2, c2, rng, hw⟩ := c_knownN (n := n) (c := c) (W := W) (p := p) (tw := tw) hL h186 (by decide) s12 (by decide) h
  refine ⟨_, I', ?_, c2, rng, ?_⟩
  · unfold D_X2_readSampleName
    refine bdk y2T (bdk e1 (bdk y2R10 (bdk y2R0 (bdk (t5I TB112) ?_))))
    rw [c1.ne (by omega), n3]
    exact bdk eS (bdk y2T (bdk e2 rfl))
  · rcases hw with ⟨w1, rfl, w2, w3, w4⟩ | ⟨w1, rfl, w2, w3, w4⟩ | ⟨w1, rfl, w2, w4⟩ | ⟨w1, w4⟩
    · exact Or.inl ⟨w1, rfl, w2, w3, w4⟩
    · exact Or.inr (Or.inl ⟨w1, rfl, w2, w3, w4⟩)
    · exact Or.inr (Or.inr (Or.inl ⟨w1, rfl, w2, w4⟩))
    · exact Or.inr (Or.inr (Or.inr ⟨w1, w4⟩))
theorem c_pName {ns np nr : Nat} {tw : Int} (hL : L ≤ 500) (h : CX B L a I) (hN : NmsC ns np nr I) :
    ∃ x I', D_X2_readPhaseName 111 tw (st true n c I W p) = some (x, st true n c I' W p) ∧ CC I I' ∧ (-1 ≤ x ∧ x < np) ∧
      ((nmOk B L (sk B L a) ∧ x = fiN (fun k => I 187 k) (nv B (sk B L a) (we B L (sk B L a) - sk B L a)) np 0 ∧ x ≠ -1 ∧ x ≠ tw ∧ CX B L (we B L (sk B L a)) I') ∨
       (nmOk B L (sk B L a) ∧ x = fiN (fun k => I 187 k) (nv B (sk B L a) (we B L (sk B L a) - sk B L a)) np 0 ∧ x ≠ -1 ∧ x = tw ∧ CF B L 4 (sk B L a : Nat) I') ∨
       (nmOk B L (sk B L a) ∧ x = fiN (fun k => I 187 k) (nv B (sk B L a) (we B L (sk B L a) - sk B L a)) np 0 ∧ x = -1 ∧ CF B L 5 (sk B L a : Nat) I') ∨
       (¬ nmOk B L (sk B L a) ∧ CF B L 1 (sk B L a : Nat) I')) := by
  obtain ⟨n3, n4, n5, s12, p4, r24⟩ := id hN
  obtain ⟨v, I1, e1, c1, eS, I', e2, c2, rng, hw⟩ := c_knownN (n := n) (c := c) (W := W) (p := p) (tw := tw) hL h187 (by decide) p4 (by decide) h
  refine ⟨_, I', ?_, c2, rng, ?_⟩
  · unfold D_X2_readPhaseName
    refine bdk y2T (bdk e1 (bdk y2R11 (bdk y2R0 (bdk (t5I TB112) ?_))))
    rw [c1.ne (by omega), n4]
    exact bdk eS (bdk y2T (bdk e2 rfl))
  · rcases hw with ⟨w1, rfl, w2, w3, w4⟩ | ⟨w1, rfl, w2, w3, w4⟩ | ⟨w1, rfl, w2, w4⟩ | ⟨w1, w4⟩
    · exact Or.inl ⟨w1, rfl, w2, w3, w4⟩
    · exact Or.inr (Or.inl ⟨w1, rfl, w2, w3, w4⟩)
    · exact Or.inr (Or.inr (Or.inl ⟨w1, rfl, w2, w4⟩))
    · exact Or.inr (Or.inr (Or.inr ⟨w1, w4⟩))
/-- behind a fault: names are passed over -/
theorem c_knownF {x tw : Int} (h : CF B L k pl I) : D_X2_known 111 x tw (st true n c I W p) = some (x, st true n c I W p) := by
  unfold D_X2_known D_X2_known_31
  by_cases q : x = -1
  · rw [if_neg (fun w => w q)]
    exact bdk y2I (bdk y2T (bdk (c_failF h.nz) rfl))
  · rw [if_pos q]
    by_cases q2 : x = tw
    · rw [if_neg (fun w => w q2)]
      exact bdk y2I (bdk y2T (bdk (c_failF h.nz) rfl))
    · rw [if_pos q2]
theorem c_sNameF {ns np nr : Nat} {tw : Int} (hL : L ≤ 500) (h : CF B L k pl I) (hN : NmsC ns np nr I) : ∃ x I', D_X2_readSampleName 111 tw (st true n c I W p) = some (x, st true n c I' W p) ∧ CC I I' ∧ CF B L k pl I' := by
  obtain ⟨n3, n4, n5, s12, p4, r24⟩ := id hN
  obtain ⟨I1, e1, c1, f1⟩ := c_nameF (n := n) (c := c) (W := W) (p := p) hL h
  refine ⟨fiN (fun k => I1 186 k) 0 ns 0, I1, ?_, c1, f1⟩
  unfold D_X2_readSampleName
  refine bdk y2T (bdk e1 (bdk y2R10 (bdk y2R0 (bdk (t5I TB112) ?_))))
  rw [c1.ne (by omega), n3]
  exact bdk (c_numberOf h186 s12 (by decide)) (bdk y2T (bdk (c_knownF f1) rfl))
theorem c_pNameF {ns np nr : Nat} {tw : Int} (hL : L ≤ 500) (h : CF B L k pl I) (hN : NmsC ns np nr I) : ∃ x I', D_X2_readPhaseName 111 tw (st true n c I W p) = some (x, st true n c I' W p) ∧ CC I I' ∧ CF B L k pl I' := by
  obtain ⟨n3, n4, n5, s12, p4, r24⟩ := id hN
  obtain ⟨I1, e1, c1, f1⟩ := c_nameF (n := n) (c := c) (W := W) (p := p) hL h
  refine ⟨fiN (fun k => I1 187 k) 0 np 0, I1, ?_, c1, f1⟩
  unfold D_X2_readPhaseName
  refine bdk y2T (bdk e1 (bdk y2R11 (bdk y2R0 (bdk (t5I TB112) ?_))))
  rw [c1.ne (by omega), n4]
  exact bdk (c_numberOf h187 p4 (by decide)) (bdk y2T (bdk (c_knownF f1) rfl))
end KN
