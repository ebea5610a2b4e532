/-! THE PURE PART: names, on both sides -/
/-- a name as the reference keeps it in a row -/
def NmM (B : Nat → Int) (I : Nat → Nat → Int) (row : Nat) (v : Int) : Prop := ∃ b l : Nat, (1 ≤ l ∧ l ≤ 6) ∧ (∀ t, t < l → 97 ≤ B (b + t) ∧ B (b + t) ≤ 122) ∧ v = nv B b l ∧ ∀ i, i < 7 → I 1223 (7 * row + i) = if i < l then B (b + i) else 0
theorem NmM.fr {B : Nat → Int} {I I' : Nat → Nat → Int} {row : Nat} {v : Int} (h : NmM B I row v) (hf : ∀ i, i < 7 → I' 1223 (7 * row + i) = I 1223 (7 * row + i)) : NmM B I' row v := by
  obtain ⟨b, l, h1, h2, h3, h4⟩ := h
  exact ⟨b, l, h1, h2, h3, fun i hi => by rw [hf i hi]; exact h4 i hi⟩
/-- the names that a line has told so far -/
def LKs (B : Nat → Int) (L q : Nat) (m : Nat) (vs : Nat → Int) (I : Nat → Nat → Int) : Prop := I 1170 48 = (m : Nat) ∧ m ≤ 8 ∧ ∀ k, k < m → ∃ b : Nat, I 1228 k = (b : Nat) ∧ nmOk B L b ∧ we B L b ≤ q ∧ vs k = nv B b (we B L b - b)
theorem LKs.fr {B : Nat → Int} {L q q' m : Nat} {vs : Nat → Int} {I I' : Nat → Nat → Int} (h : LKs B L q m vs I) (h1 : I' 1170 48 = I 1170 48) (h2 : ∀ k, k < m → I' 1228 k = I 1228 k) (hq : q ≤ q') : LKs B L q' m vs I' := by
  obtain ⟨a1, a2, a3⟩ := h
  refine ⟨by rw [h1]; exact a1, a2, fun k hk => ?_⟩
  obtain ⟨b, b1, b2, b3, b4⟩ := a3 k hk
  exact ⟨b, by rw [h2 k hk]; exact b1, b2, by omega, b4⟩
section NMS
variable {n : Nat} {c : Nat × Nat × Nat × Nat} {I : Nat → Nat → Int} {W : Nat → Nat → BitVec 64} {p : Nat → Nat} {B : Nat → Int} {L a b : Nat} {k pl : Int}
theorem nmOk_1 {j : Nat} (h : nmOk B L j) : 1 ≤ we B L j - j := by have := we_gt h.1; omega
theorem nmOk_le {j : Nat} (h : nmOk B L j) : j + (we B L j - j) = we B L j ∧ we B L j ≤ L := by
  have := we_gt h.1
  have := we_le (B := B) (L := L) (i := j) (by have := (isLt_1 h.1).1; omega)
  omega
theorem m_isName {row j len : Nat} {v : Int} (hB : ∀ k, 0 ≤ B k ∧ B k < 256) (hL : L ≤ 500) (hr : row < 16) (h : MT B L b I) (hN : NmM B I row v) (h1 : 1 ≤ len ∧ len ≤ 6) (hl : ∀ t, t < len → 97 ≤ B (j + t) ∧ B (j + t) ≤ 122) (hjl : j + len ≤ L) :
    D_X9_isName 1170 (row : Int) (j : Int) ((j + len : Nat) : Int) (st true n c I W p) = some (bI (decide (v = nv B j len))) := by
  obtain ⟨b0, l, l16, lb, rfl, hrow⟩ := hN
  have key : (∀ i, i < 7 → (if i < l then B (b0 + i) else 0) = (if i < len then B (j + i) else 0)) ↔ nv B b0 l = nv B j len := by
    constructor
    · intro w
      have e : l = len := by
        rcases Nat.lt_trichotomy l len with q | q | q
        · have := w l (by omega)
          rw [if_neg (by omega), if_pos q] at this
          have := hl l q
          omega
        · exact q
        · have := w len (by omega)
          rw [if_pos q, if_neg (by omega)] at this
          have := lb len q
          omega
      subst e
      refine nv_cong l (fun t ht => ?_)
      have := w t (by omega)
      rw [if_pos ht, if_pos ht] at this
      exact this
    · intro w
      obtain ⟨e, hb⟩ := nv_inj l len b0 j lb hl w
      subst e
      intro i hi
      by_cases q : i < l
      · rw [if_pos q, if_pos q]; exact hb i q
      · rw [if_neg q, if_neg q]
  have L1 : ∀ (d i f : Nat), i + d = 7 → d < f → (∀ u, u < i → (if u < l then B (b0 + u) else 0) = (if u < len then B (j + u) else 0)) →
      ((∀ u, u < 7 → (if u < l then B (b0 + u) else 0) = (if u < len then B (j + u) else 0)) ∧ D_X9_isName_3 f 1170 (row : Int) (j : Int) ((j + len : Nat) : Int) (i : Nat) (st true n c I W p) = some (Sum.inl ())) ∨ ((¬ ∀ u, u < 7 → (if u < l then B (b0 + u) else 0) = (if u < len then B (j + u) else 0)) ∧ D_X9_isName_3 f 1170 (row : Int) (j : Int) ((j + len : Nat) : Int) (i : Nat) (st true n c I W p) = some (Sum.inr 0)) := by
    intro d
    induction d with
    | zero =>
      intro i f hi hf hp
      obtain ⟨f, rfl⟩ : ∃ g, f = g + 1 := ⟨f - 1, by omega⟩
      exact Or.inl ⟨fun u hu => hp u (by omega), if_pos (by omega)⟩
    | succ d ih =>
      intro i f hi hf hp
      obtain ⟨f, rfl⟩ : ∃ g, f = g + 1 := ⟨f - 1, by omega⟩
      have pre : ∀ {R : Option (Unit ⊕ Int)}, (if (if i < l then B (b0 + i) else 0) = (if i < len then B (j + i) else 0) then D_X9_isName_3 f 1170 (row : Int) (j : Int) ((j + len : Nat) : Int) ((i + 1 : Nat) : Int) (st true n c I W p) else (bO 0).bind fun v3 => some (Sum.inr v3)) = R → D_X9_isName_3 (f + 1) 1170 (row : Int) (j : Int) ((j + len : Nat) : Int) (i : Nat) (st true n c I W p) = R := by
        intro R hR
        have t31 : ∀ y0 : Int, y0 = (if i < len then B (j + i) else 0) → D_X9_isName_31 (D_X9_isName_3 f) 1170 (row : Int) (j : Int) ((j + len : Nat) : Int) (i : Nat) y0 (st true n c I W p) = R := by
          intro y0 hy
          subst hy
          unfold D_X9_isName_31
          refine bdk z9R31 ?_
          rw [mw_of (x := 7 * (row : Int)) (by omega) (by omega), mw_of (x := 7 * (row : Int) + (i : Nat)) (by omega) (by omega)]
          refine bdk (z9L31 (by omega) (by omega)) ?_
          rw [show (7 * (row : Int) + (i : Nat)).toNat = 7 * row + i by omega, hrow i (by omega), mw_n (by omega)]
          exact hR
        show (if (7 : Int) ≤ (i : Nat) then _ else _) = _
        rw [if_neg (by omega), mw_of (x := (j : Int) + (i : Nat)) (by omega) (by omega)]
        by_cases q : i < len
        · rw [if_neg (by omega)]
          refine bdk z9R30 (bdk (z9L30 (by omega) (by omega)) ?_)
          rw [show ((j : Int) + (i : Nat)).toNat = j + i by omega, h.1 _ (by omega), sb_lo (by have := hl i q; omega)]
          exact t31 _ (by rw [if_pos q])
        · rw [if_pos (by omega)]
          exact t31 0 (by rw [if_neg q])
      by_cases z : (if i < l then B (b0 + i) else 0) = (if i < len then B (j + i) else 0)
      · rcases ih (i + 1) f (by omega) (by omega) (fun u hu => by
          by_cases y : u = i
          · rw [y]; exact z
          · exact hp u (by omega)) with ⟨h1, h2⟩ | ⟨h1, h2⟩
        · exact Or.inl ⟨h1, pre (by rw [if_pos z]; exact h2)⟩
        · exact Or.inr ⟨h1, pre (by rw [if_pos z]; exact h2)⟩
      · exact Or.inr ⟨fun y => z (y i (by omega)), pre (by rw [if_neg z]; rfl)⟩
  unfold D_X9_isName
  rcases L1 7 0 mFU rfl (by decide) (fun u hu => absurd hu (Nat.not_lt_zero u)) with ⟨h1, h2⟩ | ⟨h1, h2⟩
  · rw [decide_eq_true (key.1 h1)]
    exact bdk h2 rfl
  · rw [decide_eq_false (fun w => h1 (key.2 w))]
    exact bdk h2 rfl
theorem m_isAlike {x j : Nat} (hB : ∀ k, 0 ≤ B k ∧ B k < 256) (hL : L ≤ 500) (h : MT B L b I) (hx : nmOk B L x) (hj : nmOk B L j) (hxj : we B L x ≤ j) : D_X9_isAlike 1170 (x : Int) (j : Int) ((we B L j - j : Nat) : Int) (st true n c I W p) = some (bI (decide (nv B x (we B L x - x) = nv B j (we B L j - j)))) := by
  have jl := nmOk_le hj
  have xl := nmOk_le hx
  have j1 := nmOk_1 hj
  have x1 := nmOk_1 hx
  have lj := nmOk_l hj
  have lx := nmOk_l hx
  generalize hm : we B L j - j = m at jl j1 lj
  have m6 : m ≤ 6 := by rw [← hm]; exact hj.2
  have key : ((∀ u, u < m → B (x + u) = B (j + u)) ∧ isLt B L (x + m) = false) ↔ nv B x (we B L x - x) = nv B j m := by
    constructor
    · rintro ⟨w1, w2⟩
      have e : we B L x - x = m := by
        rcases Nat.lt_trichotomy (we B L x - x) m with q | q | q
        · have hno := we_no (B := B) (L := L) (i := x)
          have : isLt B L (we B L x) = true := decide_eq_true (by
            have e2 := w1 (we B L x - x) q
            rw [show x + (we B L x - x) = we B L x by omega] at e2
            have := lj (we B L x - x) q
            omega)
          rw [this] at hno
          cases hno
        · exact q
        · have : isLt B L (x + m) = true := we_yes (i := x) (by omega) (by omega)
          rw [this] at w2
          cases w2
      rw [e]
      exact nv_cong m w1
    · intro w
      obtain ⟨e, hb⟩ := nv_inj _ _ x j lx lj w
      refine ⟨fun u hu => hb u (by omega), ?_⟩
      rw [show x + m = we B L x by omega]
      exact we_no
  have L1 : ∀ (d t f : Nat), t + d = m → d < f → (∀ u, u < t → B (x + u) = B (j + u)) → ((∀ u, u < m → B (x + u) = B (j + u)) ∧ D_X9_isAlike_3 f 1170 (x : Int) (j : Int) (m : Int) (t : Nat) (st true n c I W p) = some (Sum.inl ())) ∨ ((¬ ∀ u, u < m → B (x + u) = B (j + u)) ∧ D_X9_isAlike_3 f 1170 (x : Int) (j : Int) (m : Int) (t : Nat) (st true n c I W p) = some (Sum.inr 0)) := by
    intro d
    induction d with
    | zero =>
      intro t f ht hf hp
      obtain ⟨f, rfl⟩ : ∃ g, f = g + 1 := ⟨f - 1, by omega⟩
      exact Or.inl ⟨fun u hu => hp u (by omega), if_pos (by omega)⟩
    | succ d ih =>
      intro t f ht hf hp
      obtain ⟨f, rfl⟩ : ∃ g, f = g + 1 := ⟨f - 1, by omega⟩
      have hs : sb (B (x + t)) = sb (B (j + t)) ↔ B (x + t) = B (j + t) := by
        have := hB (x + t)
        have := lj t (by omega)
        rw [sb_lo (x := B (j + t)) (by omega)]
        exact sb_eq (hB _) (by omega)
      have pre : ∀ {R : Option (Unit ⊕ Int)}, (if sb (B (x + t)) = sb (B (j + t)) then D_X9_isAlike_3 f 1170 (x : Int) (j : Int) (m : Int) ((t + 1 : Nat) : Int) (st true n c I W p) else (bO 0).bind fun v5 => some (Sum.inr v5)) = R → D_X9_isAlike_3 (f + 1) 1170 (x : Int) (j : Int) (m : Int) (t : Nat) (st true n c I W p) = R := by
        intro R hR
        show (if (m : Int) ≤ (t : Nat) then _ else _) = _
        rw [if_neg (by omega), mw_of (x := (x : Int) + (t : Nat)) (by omega) (by omega), mw_of (x := (j : Int) + (t : Nat)) (by omega) (by omega)]
        refine bdk z9R30 (bdk (z9L30 (by omega) (by omega)) (bdk z9R30 (bdk (z9L30 (by omega) (by omega)) ?_)))
        rw [show ((x : Int) + (t : Nat)).toNat = x + t by omega, show ((j : Int) + (t : Nat)).toNat = j + t by omega, h.1 _ (by omega), h.1 _ (by omega), mw_n (by omega)]
        exact hR
      by_cases z : B (x + t) = B (j + t)
      · rcases ih (t + 1) f (by omega) (by omega) (fun u hu => by
          by_cases y : u = t
          · rw [y]; exact z
          · exact hp u (by omega)) with ⟨h1, h2⟩ | ⟨h1, h2⟩
        · exact Or.inl ⟨h1, pre (by rw [if_pos (hs.2 z)]; exact h2)⟩
        · exact Or.inr ⟨h1, pre (by rw [if_pos (hs.2 z)]; exact h2)⟩
      · exact Or.inr ⟨fun y => z (y t (by omega)), pre (by rw [if_neg (fun y => z (hs.1 y))]; rfl)⟩
  unfold D_X9_isAlike D_X9_isAlike_62 D_X9_isAlike_63
  rcases L1 m 0 mFU (by omega) (by unfold mFU; omega) (fun u hu => absurd hu (Nat.not_lt_zero u)) with ⟨h1, h2⟩ | ⟨h1, h2⟩
  · have e1 := m_isSmall (n := n) (c := c) (W := W) (p := p) (j := x + m) hB hL h
    have e2 := m_isSmall (n := n) (c := c) (W := W) (p := p) (j := j + m) hB hL h
    have w2 : isLt B L (j + m) = false := by rw [show j + m = we B L j by omega]; exact we_no
    refine bdk h2 (bdk z9T ?_)
    rw [mw_of (x := (x : Int) + (m : Int)) (by omega) (by omega), show (x : Int) + (m : Int) = ((x + m : Nat) : Int) by omega]
    refine bdk e1 ?_
    cases q : isLt B L (x + m) with
    | true =>
      rw [decide_eq_false (fun w => by rw [(key.2 w).2] at q; cases q)]
      rfl
    | false =>
      rw [decide_eq_true (key.1 ⟨h1, q⟩)]
      show (if (0 : Int) ≠ 0 then _ else _) = _
      rw [if_neg (by decide), mw_of (x := (j : Int) + (m : Int)) (by omega) (by omega), show (j : Int) + (m : Int) = ((j + m : Nat) : Int) by omega]
      refine bdk z9T (bdk e2 ?_)
      rw [w2]
      rfl
  · rw [decide_eq_false (fun w => h1 (key.2 w).1)]
    exact bdk h2 rfl
theorem m_isTwice {j m q : Nat} {vs : Nat → Int} (hB : ∀ k, 0 ≤ B k ∧ B k < 256) (hL : L ≤ 500) (h : MT B L b I) (hk : LKs B L q m vs I) (hj : nmOk B L j) (hq : q ≤ j) (h41 : I 1170 41 = ((we B L j - j : Nat) : Int)) :
    ∃ t : Bool, D_X9_isTwice 1170 (j : Int) (st true n c I W p) = some (bI t) ∧ (t = true ↔ ∃ k, k < m ∧ vs k = nv B j (we B L j - j)) := by
  obtain ⟨k1, k2, k3⟩ := hk
  have L1 : ∀ (d i f : Nat), i + d = m → d < f → (∀ u, u < i → vs u ≠ nv B j (we B L j - j)) → ((∀ u, u < m → vs u ≠ nv B j (we B L j - j)) ∧ D_X9_isTwice_2 f 1170 (j : Int) (i : Nat) (st true n c I W p) = some (Sum.inl ())) ∨ ((∃ u, u < m ∧ vs u = nv B j (we B L j - j)) ∧ D_X9_isTwice_2 f 1170 (j : Int) (i : Nat) (st true n c I W p) = some (Sum.inr 1)) := by
    intro d
    induction d with
    | zero =>
      intro i f hi hf hp
      obtain ⟨f, rfl⟩ : ∃ g, f = g + 1 := ⟨f - 1, by omega⟩
      refine Or.inl ⟨fun u hu => hp u (by omega), bdk z9I ?_⟩
      rw [k1, if_pos (by omega)]
    | succ d ih =>
      intro i f hi hf hp
      obtain ⟨f, rfl⟩ : ∃ g, f = g + 1 := ⟨f - 1, by omega⟩
      obtain ⟨x, x1, x2, x3, x4⟩ := k3 i (by omega)
      have ea := m_isAlike (n := n) (c := c) (W := W) (p := p) hB hL h x2 hj (by omega)
      rw [← x4] at ea
      have pre : ∀ {R : Option (Unit ⊕ Int)}, (if bI (decide (vs i = nv B j (we B L j - j))) = 0 then D_X9_isTwice_2 f 1170 (j : Int) ((i + 1 : Nat) : Int) (st true n c I W p) else (bO 1).bind fun v6 => some (Sum.inr v6)) = R → D_X9_isTwice_2 (f + 1) 1170 (j : Int) (i : Nat) (st true n c I W p) = R := by
        intro R hR
        refine bdk z9I ?_
        rw [k1, if_neg (by omega)]
        refine bdk z9R36 (bdk (z9L36 (by omega) (by omega)) (bdk z9I (bdk z9T ?_)))
        rw [toN, x1, h41]
        refine bdk ea ?_
        rw [mw_n (by omega)]
        exact hR
      by_cases z : vs i = nv B j (we B L j - j)
      · refine Or.inr ⟨⟨i, by omega, z⟩, pre ?_⟩
        rw [decide_eq_true z]
        rfl
      · rcases ih (i + 1) f (by omega) (by omega) (fun u hu => by
          by_cases y : u = i
          · rw [y]; exact z
          · exact hp u (by omega)) with ⟨h1, h2⟩ | ⟨h1, h2⟩
        · exact Or.inl ⟨h1, pre (by rw [decide_eq_false z]; exact h2)⟩
        · exact Or.inr ⟨h1, pre (by rw [decide_eq_false z]; exact h2)⟩
  unfold D_X9_isTwice
  rcases L1 m 0 mFU (by omega) (by unfold mFU; omega) (fun u hu => absurd hu (Nat.not_lt_zero u)) with ⟨h1, h2⟩ | ⟨h1, h2⟩
  · exact ⟨false, bdk h2 rfl, ⟨fun w => absurd w (by decide), fun ⟨u, hu, e⟩ => absurd e (h1 u hu)⟩⟩
  · exact ⟨true, bdk h2 rfl, ⟨fun _ => h1, fun _ => rfl⟩⟩
theorem m_keeps {j m q : Nat} {vs : Nat → Int} (hk : LKs B L q m vs I) (hm : m < 8) (hj : nmOk B L j) (hq : q ≤ we B L j) : ∃ I', D_X9_keeps 1170 (j : Int) (st true n c I W p) = some (st true n c I' W p) ∧ LKs B L (we B L j) (m + 1) (fun k => if k = m then nv B j (we B L j - j) else vs k) I' ∧ Fr (fun x y => (x = 1228 ∧ y = m) ∨ (x = 1170 ∧ y = 48)) I I' := by
  obtain ⟨k1, k2, k3⟩ := hk
  refine ⟨u2 (u2 I 1228 m (j : Int)) 1170 48 ((m + 1 : Nat) : Int), ?_, ⟨by rw [u2_eq], by omega, fun k hk => ?_⟩, fun x y w => by rw [u2_ne _ _ (by omega), u2_ne _ _ (by omega)]⟩
  · unfold D_X9_keeps D_X9_keeps_29
    refine bdk z9I ?_
    rw [k1, if_neg (by omega)]
    refine bdk z9R36 (bdk z9I ?_)
    rw [k1]
    refine bdk (z9S36 (by omega) (by omega)) (bdk z9I ?_)
    rw [toN, u2_ne _ _ (by omega), k1, mw_n (by omega)]
    exact bdk z9P rfl
  · by_cases z : k = m
    · subst z
      exact ⟨j, by rw [u2_ne _ _ (by omega), u2_eq], hj, Nat.le_refl _, if_pos rfl⟩
    · obtain ⟨x, x1, x2, x3, x4⟩ := k3 k (by omega)
      refine ⟨x, by rw [u2_ne _ _ (by omega), u2_ne _ _ (by omega)]; exact x1, x2, by omega, ?_⟩
      show (if k = m then _ else vs k) = _
      rw [if_neg z]
      exact x4
/-- the names that are told, on the reference -/
def NmsM (B : Nat → Int) (ns np : Nat) (nS nP : Nat → Int) (I : Nat → Nat → Int) : Prop := I 1170 45 = (ns : Nat) ∧ I 1170 46 = (np : Nat) ∧ (ns ≤ 12 ∧ np ≤ 4) ∧ (∀ k, k < ns → NmM B I k (nS k)) ∧ ∀ k, k < np → NmM B I (12 + k) (nP k)
theorem NmsM.fr {ns np : Nat} {nS nP : Nat → Int} {I' : Nat → Nat → Int} (h : NmsM B ns np nS nP I) (h45 : I' 1170 45 = I 1170 45) (h46 : I' 1170 46 = I 1170 46) (hf : ∀ i, I' 1223 i = I 1223 i) : NmsM B ns np nS nP I' := by
  obtain ⟨a1, a2, a3, a4, a5⟩ := h
  exact ⟨by rw [h45]; exact a1, by rw [h46]; exact a2, a3, fun k hk => (a4 k hk).fr (fun i _ => hf _), fun k hk => (a5 k hk).fr (fun i _ => hf _)⟩
/-- a name that is told already -/
def taken (ns np : Nat) (nS nP : Nat → Int) (v : Int) : Prop := (∃ k, k < ns ∧ nS k = v) ∨ ∃ k, k < np ∧ nP k = v
theorem m_fresh7 {j ns np : Nat} {nS nP : Nat → Int} (hB : ∀ k, 0 ≤ B k ∧ B k < 256) (hL : L ≤ 500) (h : MX B L b I) (hN : NmsM B ns np nS nP I) (hj : nmOk B L j) (h41 : I 1170 41 = ((we B L j - j : Nat) : Int)) : ∀ (d i f : Nat), i + d = 16 → d + 1 < f → (∀ k, k < i → (k < ns → k < 12 → nS k ≠ nv B j (we B L j - j)) ∧ (12 ≤ k → k - 12 < np → nP (k - 12) ≠ nv B j (we B L j - j))) →
    (¬ taken ns np nS nP (nv B j (we B L j - j)) ∧ D_X9_fresh_7 f 1170 (j : Int) (i : Nat) (st true n c I W p) = some (st true n c I W p)) ∨ (taken ns np nS nP (nv B j (we B L j - j)) ∧ D_X9_fresh_7 f 1170 (j : Int) (i : Nat) (st true n c I W p) = some (st true n c (wro I 4 (j : Int)) W p)) := by
  obtain ⟨a1, a2, a3, a4, a5⟩ := hN
  have jl := nmOk_le hj
  have j1 := nmOk_1 hj
  intro d
  induction d with
  | zero =>
    intro i f hi hf hp
    obtain ⟨f, rfl⟩ : ∃ g, f = g + 1 := ⟨f - 1, by omega⟩
    refine Or.inl ⟨fun w => ?_, bdk z9I ?_⟩
    · rcases w with ⟨k, k1, k2⟩ | ⟨k, k1, k2⟩
      · exact (hp k (by omega)).1 k1 (by omega) k2
      · have := (hp (12 + k) (by omega)).2 (by omega)
        rw [show 12 + k - 12 = k by omega] at this
        exact this k1 k2
    · rw [h.2, if_neg (by decide), if_pos (by omega)]
  | succ d ih =>
    intro i f hi hf hp
    obtain ⟨f, rfl⟩ : ∃ g, f = g + 1 := ⟨f - 1, by omega⟩
    have nxt : ((i < ns → i < 12 → nS i ≠ nv B j (we B L j - j)) ∧ (12 ≤ i → i - 12 < np → nP (i - 12) ≠ nv B j (we B L j - j))) → ∀ k, k < i + 1 → (k < ns → k < 12 → nS k ≠ nv B j (we B L j - j)) ∧ (12 ≤ k → k - 12 < np → nP (k - 12) ≠ nv B j (we B L j - j)) := fun w k hk => by
      by_cases y : k = i
      · rw [y]; exact w
      · exact hp k (by omega)
    -- a place that is told
    have told1 : ∀ (v : Int) (_ : NmM B I i v), (v = nv B j (we B L j - j) → taken ns np nS nP (nv B j (we B L j - j))) → (v ≠ nv B j (we B L j - j) → (i < ns → i < 12 → nS i ≠ nv B j (we B L j - j)) ∧ (12 ≤ i → i - 12 < np → nP (i - 12) ≠ nv B j (we B L j - j))) →
        (¬ taken ns np nS nP (nv B j (we B L j - j)) ∧ D_X9_fresh_58 (D_X9_fresh_7 f) 1170 (j : Int) (i : Nat) 1 (st true n c I W p) = some (st true n c I W p)) ∨ (taken ns np nS nP (nv B j (we B L j - j)) ∧ D_X9_fresh_58 (D_X9_fresh_7 f) 1170 (j : Int) (i : Nat) 1 (st true n c I W p) = some (st true n c (wro I 4 (j : Int)) W p)) := by
      intro v hv w1 w2
      have en := m_isName (n := n) (c := c) (W := W) (p := p) (row := i) hB hL (by omega) h.1 hv ⟨j1, hj.2⟩ (nmOk_l hj) (by omega)
      have pre : ∀ {R : Option mS}, (if bI (decide (v = nv B j (we B L j - j))) = 0 then D_X9_fresh_7 f 1170 (j : Int) ((i + 1 : Nat) : Int) (st true n c I W p) else (tgO (st true n c I W p) 1170 8).bind fun _ => (D_X9_wrong 1170 4 (j : Int) (st true n c I W p)).bind fun r3 => D_X9_fresh_7 f 1170 (j : Int) ((i + 1 : Nat) : Int) r3) = R → D_X9_fresh_58 (D_X9_fresh_7 f) 1170 (j : Int) (i : Nat) 1 (st true n c I W p) = R := by
        intro R hR
        unfold D_X9_fresh_58 D_X9_fresh_86
        rw [if_neg (by decide)]
        refine bdk z9I (bdk z9T ?_)
        rw [h41, mw_of (by omega) (by omega), show (j : Int) + ((we B L j - j : Nat) : Int) = ((j + (we B L j - j) : Nat) : Int) by omega]
        refine bdk en ?_
        rw [mw_n (by omega)]
        exact hR
      by_cases z : v = nv B j (we B L j - j)
      · refine Or.inr ⟨w1 z, pre ?_⟩
        rw [decide_eq_true z]
        show (if (1 : Int) = 0 then _ else _) = _
        rw [if_neg (by decide)]
        refine bdk z9T (bdk (m_wrong h.2) ?_)
        obtain ⟨f, rfl⟩ : ∃ g, f = g + 1 := ⟨f - 1, by omega⟩
        refine bdk z9I ?_
        rw [if_pos (h.wr (k := 4) (pl := (j : Int)) (by decide)).nz]
      · have := ih (i + 1) f (by omega) (by omega) (nxt (w2 z))
        have e : ∀ {R : Option mS}, D_X9_fresh_7 f 1170 (j : Int) ((i + 1 : Nat) : Int) (st true n c I W p) = R → D_X9_fresh_58 (D_X9_fresh_7 f) 1170 (j : Int) (i : Nat) 1 (st true n c I W p) = R := fun hR => pre (by rw [decide_eq_false z]; exact hR)
        exact this.imp (fun w => ⟨w.1, e w.2⟩) (fun w => ⟨w.1, e w.2⟩)
    have skip : ((i < ns → i < 12 → nS i ≠ nv B j (we B L j - j)) ∧ (12 ≤ i → i - 12 < np → nP (i - 12) ≠ nv B j (we B L j - j))) → (¬ taken ns np nS nP (nv B j (we B L j - j)) ∧ D_X9_fresh_58 (D_X9_fresh_7 f) 1170 (j : Int) (i : Nat) 0 (st true n c I W p) = some (st true n c I W p)) ∨ (taken ns np nS nP (nv B j (we B L j - j)) ∧ D_X9_fresh_58 (D_X9_fresh_7 f) 1170 (j : Int) (i : Nat) 0 (st true n c I W p) = some (st true n c (wro I 4 (j : Int)) W p)) := by
      intro w
      have := ih (i + 1) f (by omega) (by omega) (nxt w)
      have e : ∀ {R : Option mS}, D_X9_fresh_7 f 1170 (j : Int) ((i + 1 : Nat) : Int) (st true n c I W p) = R → D_X9_fresh_58 (D_X9_fresh_7 f) 1170 (j : Int) (i : Nat) 0 (st true n c I W p) = R := fun hR => by
        unfold D_X9_fresh_58 D_X9_fresh_86
        rw [if_pos rfl, mw_n (by omega)]
        exact hR
      exact this.imp (fun w => ⟨w.1, e w.2⟩) (fun w => ⟨w.1, e w.2⟩)
    have pre : ∀ {R : Option mS}, (if (12 : Int) ≤ (i : Nat) then
          (gI (st true n c I W p) 1170 8 46).bind fun v2 =>
          if v2 ≤ (mw ((i : Int) - 12)) then
            D_X9_fresh_58 (D_X9_fresh_7 f) 1170 (j : Int) (i : Int) 0 (st true n c I W p)
          else
            D_X9_fresh_58 (D_X9_fresh_7 f) 1170 (j : Int) (i : Int) 1 (st true n c I W p)
        else
          (gI (st true n c I W p) 1170 8 45).bind fun v3 =>
          if v3 ≤ (i : Int) then
            D_X9_fresh_58 (D_X9_fresh_7 f) 1170 (j : Int) (i : Int) 0 (st true n c I W p)
          else
            D_X9_fresh_58 (D_X9_fresh_7 f) 1170 (j : Int) (i : Int) 1 (st true n c I W p)) = R → D_X9_fresh_7 (f + 1) 1170 (j : Int) (i : Nat) (st true n c I W p) = R := by
      intro R hR
      refine bdk z9I ?_
      rw [h.2, if_neg (by decide), if_neg (by omega)]
      exact hR
    by_cases q12 : 12 ≤ i
    · by_cases q : i - 12 < np
      · have w := told1 (nP (i - 12)) (by have := a5 (i - 12) q; rwa [show 12 + (i - 12) = i by omega] at this) (fun e => Or.inr ⟨i - 12, q, e⟩) (fun e => ⟨fun z1 z2 => by omega, fun _ _ => e⟩)
        have e : ∀ {R : Option mS}, D_X9_fresh_58 (D_X9_fresh_7 f) 1170 (j : Int) (i : Nat) 1 (st true n c I W p) = R → D_X9_fresh_7 (f + 1) 1170 (j : Int) (i : Nat) (st true n c I W p) = R := fun hR => pre (by
          rw [if_pos (by omega)]
          refine bdk z9I ?_
          rw [a2, mw_of (by omega) (by omega), if_neg (by omega)]
          exact hR)
        exact w.imp (fun w => ⟨w.1, e w.2⟩) (fun w => ⟨w.1, e w.2⟩)
      · have w := skip ⟨fun z1 z2 => by omega, fun _ z => absurd z q⟩
        have e : ∀ {R : Option mS}, D_X9_fresh_58 (D_X9_fresh_7 f) 1170 (j : Int) (i : Nat) 0 (st true n c I W p) = R → D_X9_fresh_7 (f + 1) 1170 (j : Int) (i : Nat) (st true n c I W p) = R := fun hR => pre (by
          rw [if_pos (by omega)]
          refine bdk z9I ?_
          rw [a2, mw_of (by omega) (by omega), if_pos (by omega)]
          exact hR)
        exact w.imp (fun w => ⟨w.1, e w.2⟩) (fun w => ⟨w.1, e w.2⟩)
    · by_cases q : i < ns
      · have w := told1 (nS i) (a4 i q) (fun e => Or.inl ⟨i, q, e⟩) (fun e => ⟨fun _ _ => e, fun z => absurd z q12⟩)
        have e : ∀ {R : Option mS}, D_X9_fresh_58 (D_X9_fresh_7 f) 1170 (j : Int) (i : Nat) 1 (st true n c I W p) = R → D_X9_fresh_7 (f + 1) 1170 (j : Int) (i : Nat) (st true n c I W p) = R := fun hR => pre (by
          rw [if_neg (by omega)]
          refine bdk z9I ?_
          rw [a1, if_neg (by omega)]
          exact hR)
        exact w.imp (fun w => ⟨w.1, e w.2⟩) (fun w => ⟨w.1, e w.2⟩)
      · have w := skip ⟨fun z => absurd z q, fun z => absurd z q12⟩
        have e : ∀ {R : Option mS}, D_X9_fresh_58 (D_X9_fresh_7 f) 1170 (j : Int) (i : Nat) 0 (st true n c I W p) = R → D_X9_fresh_7 (f + 1) 1170 (j : Int) (i : Nat) (st true n c I W p) = R := fun hR => pre (by
          rw [if_neg (by omega)]
          refine bdk z9I ?_
          rw [a1, if_pos (by omega)]
          exact hR)
        exact w.imp (fun w => ⟨w.1, e w.2⟩) (fun w => ⟨w.1, e w.2⟩)
/-- a name's bytes laid in a row -/
theorem m_fresh107 {j row : Nat} (hB : ∀ k, 0 ≤ B k ∧ B k < 256) (hL : L ≤ 500) (hr : row < 16) (hj : nmOk B L j) : ∀ (d i f : Nat) (I : Nat → Nat → Int), i + d = 7 → d < f → MT B L b I → I 1170 41 = ((we B L j - j : Nat) : Int) →
    ∃ I', D_X9_fresh_107 f 1170 (row : Int) (j : Int) (i : Nat) (st true n c I W p) = some (st true n c I' W p) ∧ (∀ t, i ≤ t → t < 7 → I' 1223 (7 * row + t) = if t < we B L j - j then B (j + t) else 0) ∧ Fr (fun x y => x = 1223 ∧ 7 * row + i ≤ y ∧ y < 7 * row + 7) I I' := by
  have jl := nmOk_le hj
  have lj := nmOk_l hj
  intro d
  induction d with
  | zero =>
    intro i f I hi hf h h41
    obtain ⟨f, rfl⟩ : ∃ g, f = g + 1 := ⟨f - 1, by omega⟩
    exact ⟨I, if_pos (by omega), fun t t1 t2 => by omega, Fr.rfl'⟩
  | succ d ih =>
    intro i f I hi hf h h41
    obtain ⟨f, rfl⟩ : ∃ g, f = g + 1 := ⟨f - 1, by omega⟩
    generalize hv : (if i < we B L j - j then B (j + i) else 0) = v
    have vr : -128 ≤ v ∧ v < 128 := by
      rw [← hv]
      by_cases q : i < we B L j - j
      · rw [if_pos q]; have := lj i q; omega
      · rw [if_neg q]; decide
    have h2 : MT B L b (u2 I 1223 (7 * row + i) v) := ⟨fun k hk => by rw [u2_ne _ _ (by omega)]; exact h.1 k hk, by rw [u2_ne _ _ (by omega)]; exact h.2.1, by rw [u2_ne _ _ (by omega)]; exact h.2.2.1, h.2.2.2⟩
    obtain ⟨I', e, g1, g2⟩ := ih (i + 1) f (u2 I 1223 (7 * row + i) v) (by omega) (by omega) h2 (by rw [u2_ne _ _ (by omega)]; exact h41)
    have t143 : D_X9_fresh_143 (D_X9_fresh_107 f) 1170 (row : Int) (j : Int) (i : Int) v (mw ((mw (7 * (row : Int))) + (i : Int))) 1223 (st true n c I W p) = some (st true n c I' W p) := by
      unfold D_X9_fresh_143
      rw [mw_of (x := 7 * (row : Int)) (by omega) (by omega), mw_of (x := 7 * (row : Int) + (i : Int)) (by omega) (by omega)]
      refine bdk (z9S31 vr (by omega) (by omega)) ?_
      rw [show (7 * (row : Int) + (i : Int)).toNat = 7 * row + i by omega, mw_n (by omega)]
      exact e
    refine ⟨I', ?_, fun t t1 t2 => ?_, fun x y q => ?_⟩
    · show (if (7 : Int) ≤ (i : Nat) then _ else _) = _
      rw [if_neg (by omega)]
      refine bdk z9R31 (bdk z9I ?_)
      rw [h41]
      by_cases q : i < we B L j - j
      · rw [if_neg (by omega)]
        refine bdk z9R30 ?_
        rw [mw_of (x := (j : Int) + (i : Int)) (by omega) (by omega)]
        refine bdk (z9L30 (by omega) (by omega)) ?_
        rw [show ((j : Int) + (i : Int)).toNat = j + i by omega, h.1 _ (by omega), sb_lo (by have := lj i q; omega)]
        rw [if_pos q] at hv
        rw [hv]
        exact t143
      · rw [if_pos (by omega)]
        rw [if_neg q] at hv
        rw [hv]
        exact t143
    · by_cases z : t = i
      · subst z
        rw [g2 _ _ (by omega), u2_eq, ← hv]
      · exact g1 t (by omega) t2
    · rw [g2 x y (by omega), u2_ne _ _ (by omega)]
/-- what a name told anew may change -/
def PFr (row : Nat) (x y : Nat) : Prop := (x = 1170 ∧ 39 ≤ y ∧ y ≤ 43) ∨ (x = 1223 ∧ 7 * row ≤ y ∧ y < 7 * row + 7) ∨ (x = 1228 ∧ y = 0) ∨ (x = 1170 ∧ y = 48)
theorem m_fresh {row ns np q : Nat} {nS nP vs : Nat → Int} (hB : ∀ k, 0 ≤ B k ∧ B k < 256) (hL : L ≤ 500) (hr : row < 16) (h : MX B L b I) (hN : NmsM B ns np nS nP I) (hk : LKs B L q 0 vs I) (hq : q ≤ b) :
    ∃ I', D_X9_fresh 1170 (row : Int) (st true n c I W p) = some (st true n c I' W p) ∧ Fr (PFr row) I I' ∧
      ((nmOk B L (sk B L b) ∧ ¬ taken ns np nS nP (nv B (sk B L b) (we B L (sk B L b) - sk B L b)) ∧ MX B L (we B L (sk B L b)) I' ∧ NmM B I' row (nv B (sk B L b) (we B L (sk B L b) - sk B L b)) ∧ LKs B L (we B L (sk B L b)) 1 (fun _ => nv B (sk B L b) (we B L (sk B L b) - sk B L b)) I') ∨
       (nmOk B L (sk B L b) ∧ taken ns np nS nP (nv B (sk B L b) (we B L (sk B L b) - sk B L b)) ∧ MF B L 4 (sk B L b : Nat) I') ∨ (¬ nmOk B L (sk B L b) ∧ MF B L 1 (sk B L b : Nat) I')) := by
  obtain ⟨I1, e1, c1, h1⟩ := m_name (n := n) (c := c) (W := W) (p := p) hB hL h
  have fr1 : Fr (PFr row) I I1 := c1.mono (fun x y w => Or.inl w)
  unfold D_X9_fresh D_X9_fresh_92
  rcases h1 with ⟨hok, hx, h41⟩ | ⟨hno, hf⟩
  · have hN1 : NmsM B ns np nS nP I1 := hN.fr (c1 _ _ (by omega)) (c1 _ _ (by omega)) (fun i => c1 _ _ (by omega))
    have hsk := sk_ge (B := B) (L := L) (i := b)
    have hwe := we_ge (B := B) (L := L) (i := sk B L b)
    rcases m_fresh7 (n := n) (c := c) (W := W) (p := p) hB hL hx hN1 hok h41 16 0 mFU rfl (by decide) (fun k hk => absurd hk (Nat.not_lt_zero k)) with ⟨ht, e7⟩ | ⟨ht, e7⟩
    · obtain ⟨I2, e2, l2, f2⟩ := m_keeps (n := n) (c := c) (W := W) (p := p) (hk.fr (I' := I1) (q' := b) (c1 _ _ (by omega)) (fun k hk => absurd hk (Nat.not_lt_zero k)) hq) (by decide) hok (by omega)
      have hx2 : MX B L (we B L (sk B L b)) I2 := ⟨⟨fun k hk => by rw [f2 _ _ (by omega)]; exact hx.1.1 k hk, by rw [f2 _ _ (by omega)]; exact hx.1.2.1, by rw [f2 _ _ (by omega)]; exact hx.1.2.2.1, hx.1.2.2.2⟩, by rw [f2 _ _ (by omega)]; exact hx.2⟩
      obtain ⟨I3, e3, g3, f3⟩ := m_fresh107 (n := n) (c := c) (W := W) (p := p) (row := row) hB hL hr hok 7 0 mFU I2 rfl (by decide) hx2.1 (by rw [f2 _ _ (by omega)]; exact h41)
      have hx3 : MX B L (we B L (sk B L b)) I3 := ⟨⟨fun k hk => by rw [f3 _ _ (by omega)]; exact hx2.1.1 k hk, by rw [f3 _ _ (by omega)]; exact hx2.1.2.1, by rw [f3 _ _ (by omega)]; exact hx2.1.2.2.1, hx2.1.2.2.2⟩, by rw [f3 _ _ (by omega)]; exact hx2.2⟩
      refine ⟨I3, ?_, fun x y w => ?_, Or.inl ⟨hok, ht, hx3, ⟨sk B L b, _, ⟨nmOk_1 hok, hok.2⟩, nmOk_l hok, rfl, fun i hi => g3 i (Nat.zero_le i) hi⟩, ?_⟩⟩
      · refine bdk z9T (bdk e1 (bdk e7 (bdk z9I ?_)))
        rw [hx.2, if_pos (by decide)]
        exact bdk z9T (bdk e2 (bdk e3 rfl))
      · unfold PFr at w
        rw [f3 _ _ (by omega), f2 _ _ (by omega), c1 _ _ (by omega)]
      · obtain ⟨k1, k2, k3⟩ := l2
        refine ⟨by rw [f3 _ _ (by omega)]; exact k1, by decide, fun k hk => ?_⟩
        obtain ⟨x, x1, x2, x3, x4⟩ := k3 k hk
        have k0 : k = 0 := by omega
        subst k0
        exact ⟨x, by rw [f3 _ _ (by omega)]; exact x1, x2, x3, x4⟩
    · have hf := hx.wr (k := 4) (pl := (sk B L b : Nat)) (by decide)
      refine ⟨wro I1 4 (sk B L b : Nat), ?_, Fr.trans' fr1 (MC.w.mono (fun x y w => Or.inl w)), Or.inr (Or.inl ⟨hok, ht, hf⟩)⟩
      refine bdk z9T (bdk e1 (bdk e7 (bdk z9I ?_)))
      obtain ⟨-, ⟨z1, z2⟩, -⟩ := id hf
      rw [z1, if_neg (by decide)]
  · have e7 : ∀ x : Int, D_X9_fresh_7 mFU 1170 x 0 (st true n c I1 W p) = some (st true n c I1 W p) := by
      intro x
      refine bdk z9I ?_
      rw [if_pos hf.nz]
    refine ⟨I1, ?_, fr1, Or.inr (Or.inr ⟨hno, hf⟩)⟩
    refine bdk z9T (bdk e1 (bdk (e7 _) (bdk z9I ?_)))
    obtain ⟨-, ⟨z1, z2⟩, -⟩ := id hf
    rw [z1, if_neg (by decide)]
end NMS
