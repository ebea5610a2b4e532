/-! THE PURE PART: the reference reads signs, numbers, words -/
def MT (B : Nat → Int) (L b : Nat) (I : Nat → Nat → Int) : Prop := (∀ k, k < L → I 1222 k = sb (B k)) ∧ I 1170 38 = L ∧ I 1170 39 = (b : Nat) ∧ b ≤ L
/-- ready at a place -/
def MX (B : Nat → Int) (L b : Nat) (I : Nat → Nat → Int) : Prop := MT B L b I ∧ I 1170 42 = 0
/-- failed -/
def MF (B : Nat → Int) (L : Nat) (k pl : Int) (I : Nat → Nat → Int) : Prop := (∃ b, MT B L b I) ∧ (I 1170 42 = k ∧ 0 < k) ∧ I 1170 43 = pl
def MC (I I' : Nat → Nat → Int) : Prop := Fr (fun b k => b = 1170 ∧ 39 ≤ k ∧ k ≤ 43) I I'
theorem MC.r {I : Nat → Nat → Int} : MC I I := Fr.rfl'
theorem MC.t {I J K : Nat → Nat → Int} (h : MC I J) (h2 : MC J K) : MC I K := Fr.trans' h h2
theorem MC.u {I : Nat → Nat → Int} {k : Nat} {x : Int} (h : 39 ≤ k ∧ k ≤ 43) : MC I (u2 I 1170 k x) := fun b j q => u2_ne _ _ (fun w => q ⟨w.1, by rw [w.2]; exact h⟩)
def wro (I : Nat → Nat → Int) (k pl : Int) : Nat → Nat → Int := u2 (u2 I 1170 42 k) 1170 43 pl
theorem MC.w {I : Nat → Nat → Int} {k pl : Int} : MC I (wro I k pl) := (MC.u (by decide)).t (MC.u (by decide))
def sg (B : Nat → Int) (L j : Nat) : Int := if j < L then sb (B j) else 0
section MRD
variable {n : Nat} {c : Nat × Nat × Nat × Nat} {I : Nat → Nat → Int} {W : Nat → Nat → BitVec 64} {p : Nat → Nat} {B : Nat → Int} {L b : Nat} {k pl : Int}
theorem MT.mv (h : MT B L b I) {b' : Nat} (hb : b' ≤ L) : MT B L b' (u2 I 1170 39 (b' : Nat)) := by
  obtain ⟨h1, h2, h3, h4⟩ := h
  exact ⟨fun k hk => by rw [u2_ne _ _ (by omega)]; exact h1 k hk, by rw [u2_ne _ _ (by omega)]; exact h2, by rw [u2_eq], hb⟩
theorem MX.mv (h : MX B L b I) {b' : Nat} (hb : b' ≤ L) : MX B L b' (u2 I 1170 39 (b' : Nat)) := ⟨h.1.mv hb, by rw [u2_ne _ _ (by omega)]; exact h.2⟩
theorem MT.pt (h : MT B L b I) {j : Nat} {x : Int} (hj : 40 ≤ j) : MT B L b (u2 I 1170 j x) := by
  obtain ⟨h1, h2, h3, h4⟩ := h
  exact ⟨fun k hk => by rw [u2_ne _ _ (by omega)]; exact h1 k hk, by rw [u2_ne _ _ (by omega)]; exact h2, by rw [u2_ne _ _ (by omega)]; exact h3, h4⟩
theorem MX.pt (h : MX B L b I) {j : Nat} {x : Int} (hj : j = 40 ∨ j = 41) : MX B L b (u2 I 1170 j x) := ⟨h.1.pt (by omega), by rw [u2_ne _ _ (by omega)]; exact h.2⟩
theorem MF.pt (h : MF B L k pl I) {j : Nat} {x : Int} (hj : j = 40 ∨ j = 41) : MF B L k pl (u2 I 1170 j x) := by
  obtain ⟨⟨b, h1⟩, ⟨h2, h3⟩, h4⟩ := h
  exact ⟨⟨b, h1.pt (by omega)⟩, ⟨by rw [u2_ne _ _ (by omega)]; exact h2, h3⟩, by rw [u2_ne _ _ (by omega)]; exact h4⟩
theorem MF.mv (h : MF B L k pl I) {b' : Nat} (hb : b' ≤ L) : MF B L k pl (u2 I 1170 39 (b' : Nat)) := by
  obtain ⟨⟨b, h1⟩, ⟨h2, h3⟩, h4⟩ := h
  exact ⟨⟨b', h1.mv hb⟩, ⟨by rw [u2_ne _ _ (by omega)]; exact h2, h3⟩, by rw [u2_ne _ _ (by omega)]; exact h4⟩
theorem MX.wr (h : MX B L b I) (hk : 0 < k) : MF B L k pl (wro I k pl) := by
  unfold wro
  exact ⟨⟨b, (h.1.pt (by omega)).pt (by omega)⟩, ⟨by rw [u2_ne _ _ (by omega), u2_eq], hk⟩, by rw [u2_eq]⟩
theorem MF.nz (h : MF B L k pl I) : I 1170 42 ≠ 0 := by obtain ⟨-, ⟨h2, h3⟩, -⟩ := h; omega
theorem m_wrong {k' pl' : Int} (h : I 1170 42 = 0) : D_X9_wrong 1170 k' pl' (st true n c I W p) = some (st true n c (wro I k' pl') W p) := by
  unfold D_X9_wrong
  refine bdk z9I ?_
  rw [h, if_pos (by decide)]
  exact bdk z9P (bdk z9P rfl)
theorem m_wrongF {k' pl' : Int} (h : MF B L k pl I) : D_X9_wrong 1170 k' pl' (st true n c I W p) = some (st true n c I W p) := by
  obtain ⟨-, ⟨h2, h3⟩, -⟩ := h
  unfold D_X9_wrong
  refine bdk z9I ?_
  rw [h2, if_neg (by omega)]
theorem m_blank (hB : ∀ k, 0 ≤ B k ∧ B k < 256) (hL : L ≤ 500) : ∀ (d b f : Nat) (I : Nat → Nat → Int), b + d = L → d < f → MT B L b I → D_X9_sign_0 f 1170 (st true n c I W p) = some (st true n c (u2 I 1170 39 (sk B L b : Nat)) W p) := by
  intro d
  induction d with
  | zero =>
    intro b f I hb hf h
    obtain ⟨f, rfl⟩ : ∃ g, f = g + 1 := ⟨f - 1, by omega⟩
    obtain ⟨h1, h2, h3, h4⟩ := h
    refine bdk z9I (bdk z9I ?_)
    have e : sk B L b = b := av_end (by omega)
    rw [h3, h2, if_pos (by omega), e, u2_same h3]
  | succ d ih =>
    intro b f I hb hf h
    obtain ⟨f, rfl⟩ : ∃ g, f = g + 1 := ⟨f - 1, by omega⟩
    have hx := h
    obtain ⟨h1, h2, h3, h4⟩ := h
    refine bdk z9I (bdk z9I ?_)
    rw [h3, h2, if_neg (by omega)]
    refine bdk z9R30 (bdk z9I ?_)
    rw [h3]
    refine bdk (z9L30 (by omega) (by omega)) ?_
    rw [toN, h1 b (by omega)]
    have hs := sb_eq (hB b) (y := 32) (by decide)
    by_cases q : B b = 32
    · rw [if_neg (fun w => w (hs.2 q))]
      refine bdk z9I ?_
      rw [h3, mw_n (by omega)]
      refine bdk z9P ?_
      rw [ih (b + 1) f _ (by omega) (by omega) (hx.mv (b' := b + 1) (by omega)), u2_u2]
      have e : sk B L b = sk B L (b + 1) := av_s isBl_L (decide_eq_true ⟨by omega, q⟩)
      rw [e]
    · rw [if_pos (fun w => q (hs.1 w))]
      have e : sk B L b = b := sk_at (decide_eq_false (fun w => q w.2))
      rw [e, u2_same h3]
theorem m_sg38 (hL : L ≤ 500) (h : MT B L b I) : D_X9_sign_38 1170 (st true n c I W p) = some (sg B L b, st true n c I W p) := by
  obtain ⟨h1, h2, h3, h4⟩ := h
  unfold D_X9_sign_38 D_X9_sign_62 sg
  refine bdk z9I (bdk z9I ?_)
  rw [h3, h2]
  by_cases q : b < L
  · rw [if_neg (by omega), if_pos q]
    refine bdk z9R30 (bdk z9I ?_)
    rw [h3]
    refine bdk (z9L30 (by omega) (by omega)) ?_
    rw [toN, h1 b q]
  · rw [if_pos (by omega), if_neg q]
theorem m_sign (hB : ∀ k, 0 ≤ B k ∧ B k < 256) (hL : L ≤ 500) (h : MT B L b I) : D_X9_sign 1170 (st true n c I W p) = some (sg B L (sk B L b), st true n c (u2 I 1170 39 (sk B L b : Nat)) W p) := by
  have hx := h
  obtain ⟨h1, h2, h3, h4⟩ := h
  unfold D_X9_sign
  refine bdk z9I (bdk z9I ?_)
  rw [h3, h2]
  by_cases q : b < L
  · rw [if_neg (by omega)]
    refine bdk z9R30 (bdk z9I ?_)
    rw [h3]
    refine bdk (z9L30 (by omega) (by omega)) ?_
    rw [toN, h1 b q]
    have hs := sb_eq (hB b) (y := 32) (by decide)
    by_cases q2 : B b = 32
    · rw [if_neg (fun w => w (hs.2 q2))]
      refine bdk z9I ?_
      rw [h3, mw_n (by omega)]
      have e : sk B L b = sk B L (b + 1) := av_s isBl_L (decide_eq_true ⟨q, q2⟩)
      have hb := m_blank (n := n) (c := c) (W := W) (p := p) hB hL (L - (b + 1)) (b + 1) mFU _ (by omega) (by unfold mFU; omega) (hx.mv (b' := b + 1) (by omega))
      rw [u2_u2] at hb
      refine bdk z9P (bdk hb ?_)
      rw [← e]
      exact m_sg38 hL (hx.mv (sk_le (by omega)))
    · rw [if_pos (fun w => q2 (hs.1 w))]
      have e : sk B L b = b := sk_at (decide_eq_false (fun w => q2 w.2))
      rw [e, u2_same h3]
      exact m_sg38 hL hx
  · rw [if_pos (by omega)]
    have e : sk B L b = b := av_end (by omega)
    rw [e, u2_same h3]
    exact m_sg38 hL hx
theorem sg_pk (hB : ∀ k, 0 ≤ B k ∧ B k < 256) {j : Nat} {x : Int} (hx : 0 < x ∧ x < 128) : sg B L j = x ↔ pk B L j = x := by
  unfold sg pk
  by_cases q : j < L
  · rw [if_pos q, if_pos q]; exact sb_eq (hB j) (by omega)
  · rw [if_neg q, if_neg q]; omega
theorem m_isSign {x : Int} (hB : ∀ k, 0 ≤ B k ∧ B k < 256) (hL : L ≤ 500) (hx : 0 < x ∧ x < 128) (h : MX B L b I) : D_X9_isSign 1170 x (st true n c I W p) = some (bI (decide (pk B L (sk B L b) = x)), st true n c (u2 I 1170 39 (sk B L b : Nat)) W p) := by
  have hm := h.1.mv (sk_le (B := B) h.1.2.2.2)
  unfold D_X9_isSign D_X9_isSign_30 D_X9_isSign_31
  refine bdk z9I ?_
  rw [h.2, if_neg (by decide)]
  refine bdk z9T (bdk (m_sign hB hL h.1) ?_)
  show (if sg B L (sk B L b) ≠ x then _ else _) = _
  by_cases q : pk B L (sk B L b) = x
  · have hl : sk B L b < L := pkL (by rw [q]; omega)
    rw [if_neg (fun w => w ((sg_pk hB hx).2 q)), decide_eq_true q]
    refine bdk z9I (bdk z9I ?_)
    rw [hm.2.2.1, hm.2.1, if_neg (by omega)]
    rfl
  · rw [if_pos (fun w => q ((sg_pk hB hx).1 w)), decide_eq_false q]
    rfl
theorem m_isSignF {x : Int} (h : MF B L k pl I) : D_X9_isSign 1170 x (st true n c I W p) = some (0, st true n c I W p) := by
  unfold D_X9_isSign D_X9_isSign_30 D_X9_isSign_31
  refine bdk z9I ?_
  rw [if_pos h.nz]
  rfl
theorem sg_dg (hB : ∀ k, 0 ≤ B k ∧ B k < 256) {j : Nat} : decide (48 ≤ sg B L j ∧ sg B L j ≤ 57) = isDg B L j := by
  unfold sg isDg
  have := hB j
  by_cases q : j < L
  · rw [if_pos q]
    have e : (48 ≤ sb (B j) ∧ sb (B j) ≤ 57) ↔ (j < L ∧ 48 ≤ B j ∧ B j ≤ 57) := by unfold sb; split <;> omega
    by_cases z : 48 ≤ sb (B j) ∧ sb (B j) ≤ 57
    · rw [decide_eq_true z, decide_eq_true (e.1 z)]
    · rw [decide_eq_false z, decide_eq_false (fun w => z (e.2 w))]
  · rw [if_neg q, decide_eq_false (by omega), decide_eq_false (fun w => q w.1)]
theorem m_isDigit (hB : ∀ k, 0 ≤ B k ∧ B k < 256) (hL : L ≤ 500) (h : MX B L b I) : D_X9_isDigit 1170 (st true n c I W p) = some (bI (isDg B L (sk B L b)), st true n c (u2 I 1170 39 (sk B L b : Nat)) W p) := by
  have hm := h.1.mv (sk_le (B := B) h.1.2.2.2)
  have hs2 := m_sign (n := n) (c := c) (W := W) (p := p) hB hL hm
  rw [sk_sk, u2_u2] at hs2
  unfold D_X9_isDigit D_X9_isDigit_29 D_X9_isDigit_30
  refine bdk z9I ?_
  rw [h.2, if_neg (by decide)]
  refine bdk z9T (bdk (m_sign hB hL h.1) ?_)
  rw [← sg_dg hB]
  show (if sg B L (sk B L b) < 48 then _ else _) = _
  by_cases q1 : sg B L (sk B L b) < 48
  · rw [if_pos q1, decide_eq_false (by omega)]
    rfl
  rw [if_neg q1]
  refine bdk z9T (bdk hs2 ?_)
  show (if 57 < sg B L (sk B L b) then _ else _) = _
  by_cases q2 : 57 < sg B L (sk B L b)
  · rw [if_pos q2, decide_eq_false (by omega)]
    rfl
  rw [if_neg q2, decide_eq_true (by omega)]
  rfl
theorem m_isDigitF (h : MF B L k pl I) : D_X9_isDigit 1170 (st true n c I W p) = some (0, st true n c I W p) := by
  unfold D_X9_isDigit D_X9_isDigit_29 D_X9_isDigit_30
  refine bdk z9I ?_
  rw [if_pos h.nz]
  rfl
theorem m_isSmall {j : Nat} (hB : ∀ k, 0 ≤ B k ∧ B k < 256) (hL : L ≤ 500) (h : MT B L b I) : D_X9_isSmall 1170 (j : Int) (st true n c I W p) = some (bI (isLt B L j)) := by
  obtain ⟨h1, h2, h3, h4⟩ := h
  unfold D_X9_isSmall D_X9_isSmall_34 D_X9_isSmall_35
  refine bdk z9I ?_
  rw [h2]
  by_cases q : j < L
  · rw [if_neg (by omega)]
    refine bdk z9R30 (bdk (z9L30 (by omega) (by omega)) ?_)
    rw [toN, h1 j q]
    have hb := hB j
    have e1 : sb (B j) < 97 ↔ ¬ (97 ≤ B j ∧ B j < 128) := by unfold sb; split <;> omega
    by_cases q1 : sb (B j) < 97
    · rw [if_pos q1]
      have : isLt B L j = false := decide_eq_false (fun w => e1.1 q1 ⟨w.2.1, by omega⟩)
      rw [this]; rfl
    rw [if_neg q1]
    have e2 : 97 ≤ B j ∧ B j < 128 := by
      by_cases z : 97 ≤ B j ∧ B j < 128
      · exact z
      · exact absurd (e1.2 z) q1
    refine bdk z9R30 (bdk (z9L30 (by omega) (by omega)) ?_)
    rw [toN, h1 j q, sb_lo e2.2]
    by_cases q2 : 122 < B j
    · rw [if_pos q2]
      have : isLt B L j = false := decide_eq_false (fun w => by omega)
      rw [this]; rfl
    rw [if_neg q2]
    have : isLt B L j = true := decide_eq_true ⟨q, by omega, by omega⟩
    rw [this]; rfl
  · rw [if_pos (by omega)]
    have : isLt B L j = false := decide_eq_false (fun w => q w.1)
    rw [this]; rfl
theorem m_wordHere (hB : ∀ k, 0 ≤ B k ∧ B k < 256) (hL : L ≤ 500) (h : MX B L b I) : D_X9_isWordHere 1170 (st true n c I W p) = some (bI (isLt B L (sk B L b)), st true n c (u2 I 1170 39 (sk B L b : Nat)) W p) := by
  have hm := h.mv (sk_le (B := B) h.1.2.2.2)
  unfold D_X9_isWordHere D_X9_isWordHere_27 D_X9_isWordHere_28
  refine bdk z9T (bdk (m_sign hB hL h.1) (bdk z9I ?_))
  rw [hm.2, if_neg (by decide)]
  refine bdk z9I ?_
  rw [hm.1.2.2.1]
  refine bdk z9T (bdk (m_isSmall hB hL hm.1) ?_)
  cases isLt B L (sk B L b)
  · rfl
  · rfl
theorem m_wordHereF (hB : ∀ k, 0 ≤ B k ∧ B k < 256) (hL : L ≤ 500) (h : MF B L k pl I) : ∃ I', D_X9_isWordHere 1170 (st true n c I W p) = some (0, st true n c I' W p) ∧ MC I I' ∧ MF B L k pl I' := by
  obtain ⟨⟨b, h1⟩, h2, h3⟩ := id h
  have hm := h.mv (sk_le (B := B) (i := b) h1.2.2.2)
  refine ⟨_, ?_, MC.u (by decide), hm⟩
  unfold D_X9_isWordHere D_X9_isWordHere_27 D_X9_isWordHere_28
  refine bdk z9T (bdk (m_sign hB hL h1) (bdk z9I ?_))
  rw [if_pos hm.nz]
  rfl
theorem m_ends5 (hB : ∀ k, 0 ≤ B k ∧ B k < 256) (hL : L ≤ 500) (h : MT B L b I) : ∀ (d j f : Nat), j + d = L → d < f → D_X9_ends_5 f 1170 (j : Int) (st true n c I W p) = some ((we B L j : Nat) : Int) := by
  intro d
  induction d with
  | zero =>
    intro j f hj hf
    obtain ⟨f, rfl⟩ : ∃ g, f = g + 1 := ⟨f - 1, by omega⟩
    refine bdk z9T (bdk (m_isSmall hB hL h) ?_)
    have q : isLt B L j = false := decide_eq_false (fun w => by omega)
    have e : we B L j = j := av_0 q
    rw [q, e]
    rfl
  | succ d ih =>
    intro j f hj hf
    obtain ⟨f, rfl⟩ : ∃ g, f = g + 1 := ⟨f - 1, by omega⟩
    refine bdk z9T (bdk (m_isSmall hB hL h) ?_)
    cases q : isLt B L j with
    | true =>
      have e : we B L j = we B L (j + 1) := av_s isLt_L q
      show (if (1 : Int) = 0 then _ else _) = _
      rw [if_neg (by decide), mw_n (by omega), ih (j + 1) f (by omega) (by omega), e]
    | false =>
      have e : we B L j = j := av_0 q
      rw [e]
      rfl
theorem m_ends (hB : ∀ k, 0 ≤ B k ∧ B k < 256) (hL : L ≤ 500) (h : MT B L b I) : D_X9_ends 1170 (st true n c I W p) = some ((we B L b : Nat) : Int) := by
  unfold D_X9_ends
  refine bdk z9I ?_
  rw [h.2.2.1]
  exact bdk (m_ends5 hB hL h (L - b) b mFU (by have := h.2.2.2; omega) (by unfold mFU; omega)) rfl
theorem m_must {x : Int} (hB : ∀ k, 0 ≤ B k ∧ B k < 256) (hL : L ≤ 500) (hx : 0 < x ∧ x < 128) (h : MX B L b I) : ∃ I', D_X9_must 1170 x (st true n c I W p) = some (st true n c I' W p) ∧ MC I I' ∧ ((pk B L (sk B L b) = x ∧ MX B L (sk B L b + 1) I') ∨ (pk B L (sk B L b) ≠ x ∧ MF B L 1 (sk B L b : Nat) I')) := by
  have hm := h.mv (sk_le (B := B) h.1.2.2.2)
  unfold D_X9_must D_X9_must_30
  by_cases q : pk B L (sk B L b) = x
  · have hl : sk B L b < L := pkL (by rw [q]; omega)
    refine ⟨u2 I 1170 39 ((sk B L b + 1 : Nat) : Int), ?_, MC.u (by decide), Or.inl ⟨q, h.mv (by omega)⟩⟩
    refine bdk z9T (bdk (m_isSign hB hL hx h) ?_)
    rw [decide_eq_true q]
    show (if (1 : Int) = 0 then _ else _) = _
    rw [if_neg (by decide)]
    refine bdk z9I ?_
    rw [hm.1.2.2.1, mw_n (by omega)]
    refine bdk z9P ?_
    rw [u2_u2]
  · refine ⟨_, ?_, (MC.u (by decide)).t MC.w, Or.inr ⟨q, hm.wr (by decide)⟩⟩
    refine bdk z9T (bdk (m_isSign hB hL hx h) ?_)
    rw [decide_eq_false q]
    show (if (0 : Int) = 0 then _ else _) = _
    rw [if_pos rfl]
    refine bdk z9I ?_
    rw [hm.1.2.2.1]
    exact bdk z9T (bdk (m_wrong hm.2) rfl)
theorem m_mustF {x : Int} (h : MF B L k pl I) : D_X9_must 1170 x (st true n c I W p) = some (st true n c I W p) := by
  unfold D_X9_must D_X9_must_30
  refine bdk z9T (bdk (m_isSignF h) ?_)
  show (if (0 : Int) = 0 then _ else _) = _
  rw [if_pos rfl]
  exact bdk z9I (bdk z9T (bdk (m_wrongF h) rfl))
theorem m_dig (hB : ∀ k, 0 ≤ B k ∧ B k < 256) (hL : L ≤ 500) : ∀ (d i f : Nat) (v : Int) (I : Nat → Nat → Int), i + d = L → d < f → MT B L i I → 0 ≤ v ∧ v ≤ 1000000 → D_X9_number_31 f 1170 v (st true n c I W p) = some (rvN B L d i v, st true n c (u2 I 1170 39 (de B L i : Nat)) W p) := by
  intro d
  induction d with
  | zero =>
    intro i f v I hi hf h hv
    obtain ⟨f, rfl⟩ : ∃ g, f = g + 1 := ⟨f - 1, by omega⟩
    obtain ⟨h1, h2, h3, h4⟩ := h
    refine bdk z9I (bdk z9I ?_)
    have e : de B L i = i := av_end (by omega)
    rw [h3, h2, if_pos (by omega), e, u2_same h3]
    rfl
  | succ d ih =>
    intro i f v I hi hf h hv
    obtain ⟨f, rfl⟩ : ∃ g, f = g + 1 := ⟨f - 1, by omega⟩
    have hx := h
    obtain ⟨h1, h2, h3, h4⟩ := h
    have e0 : rvN B L (d + 1) i v = if isDg B L i = true then rvN B L d (i + 1) (if 1000000 < 10 * v + B i - 48 then 1000000 else 10 * v + B i - 48) else v := rfl
    have hs := sg_dg (L := L) hB (j := i)
    have es : sg B L i = sb (B i) := if_pos (by omega)
    rw [es] at hs
    refine bdk z9I (bdk z9I ?_)
    rw [h3, h2, if_neg (by omega)]
    refine bdk z9R30 (bdk z9I ?_)
    rw [h3]
    refine bdk (z9L30 (by omega) (by omega)) ?_
    rw [toN, h1 i (by omega), e0]
    cases q : isDg B L i with
    | false =>
      have hn : ¬ (48 ≤ sb (B i) ∧ sb (B i) ≤ 57) := of_decide_eq_false (by rw [hs, q])
      have e : de B L i = i := av_0 q
      rw [e, u2_same h3, if_neg (show ¬ false = true by decide)]
      by_cases q1 : sb (B i) < 48
      · rw [if_pos q1]
      · rw [if_neg q1]
        refine bdk z9R30 (bdk z9I ?_)
        rw [h3]
        refine bdk (z9L30 (by omega) (by omega)) ?_
        rw [toN, h1 i (by omega), if_pos (by omega)]
    | true =>
      have hp : 48 ≤ sb (B i) ∧ sb (B i) ≤ 57 := of_decide_eq_true (by rw [hs, q])
      have hd := (isDg_1 q).2
      have e : de B L i = de B L (i + 1) := av_s isDg_L q
      rw [if_neg (by omega), if_pos (show true = true from rfl)]
      refine bdk z9R30 (bdk z9I ?_)
      rw [h3]
      refine bdk (z9L30 (by omega) (by omega)) ?_
      rw [toN, h1 i (by omega), if_neg (by omega)]
      refine bdk z9R30 (bdk z9I ?_)
      rw [h3]
      refine bdk (z9L30 (by omega) (by omega)) (bdk z9I ?_)
      rw [toN, h1 i (by omega), h3, mw_n (by omega), sb_lo (by omega)]
      refine bdk z9P ?_
      rw [mw_of (x := 10 * v) (by omega) (by omega), mw_of (x := 10 * v + B i) (by omega) (by omega), mw_of (x := 10 * v + B i - 48) (by omega) (by omega)]
      rw [ih (i + 1) f _ _ (by omega) (by omega) (hx.mv (b' := i + 1) (by omega)) (by split <;> omega), u2_u2, e]
theorem m_num {lo hi : Int} (hB : ∀ k, 0 ≤ B k ∧ B k < 256) (hL : L ≤ 500) (hh : hi < 100000) (h : MX B L b I) : ∃ v I', D_X9_number 1170 lo hi (st true n c I W p) = some (v, st true n c I' W p) ∧ MC I I' ∧ ((numOk B L (sk B L b) lo hi ∧ v = cv B L (sk B L b) ∧ MX B L (de B L (sk B L b)) I') ∨ (¬ numOk B L (sk B L b) lo hi ∧ v = lo ∧ MF B L (numK B L (sk B L b)) (sk B L b : Nat) I')) := by
  have hl := sk_le (B := B) h.1.2.2.2
  have hm := h.mv hl
  have c1 : MC I (u2 I 1170 39 (sk B L b : Nat)) := MC.u (by decide)
  unfold D_X9_number
  cases q : isDg B L (sk B L b) with
  | true =>
    have hnv := nvR_v (B := B) (L := L) (i := sk B L b)
    obtain ⟨ok1, ok2⟩ := nvR_ok (lo := lo) (hi := hi) hnv hh
    have hd := m_dig (n := n) (c := c) (W := W) (p := p) hB hL (L - sk B L b) (sk B L b) mFU 0 _ (by omega) (by unfold mFU; omega) hm.1 (by decide)
    rw [u2_u2] at hd
    have hx := h.mv (de_le (B := B) hl)
    have c2 : MC I (u2 I 1170 39 (de B L (sk B L b) : Nat)) := MC.u (by decide)
    have hk : numK B L (sk B L b) = 2 := if_pos q
    have pre : ∀ {R : Option (Int × mS)}, D_X9_number_108 1170 lo hi (sk B L b : Nat) (rv B L (sk B L b)) (st true n c (u2 I 1170 39 (de B L (sk B L b) : Nat)) W p) = R → ((tgO (st true n c I W p) 1170 8).bind fun _ => (D_X9_isDigit 1170 (st true n c I W p)).bind fun r1 => if r1.1 ≠ 0 then ((gI r1.2 1170 8 39).bind fun v2 => (D_X9_number_31 mFU 1170 0 r1.2).bind fun r3 => D_X9_number_108 1170 lo hi v2 r3.1 r3.2) else ((tgO r1.2 1170 8).bind fun _ => (D_X9_sign 1170 r1.2).bind fun r4 => (gI r4.2 1170 8 39).bind fun v5 => (tgO r4.2 1170 8).bind fun _ => (D_X9_wrong 1170 1 v5 r4.2).bind fun r6 => some (lo, r6))) = R := by
      intro R hR
      refine bdk z9T (bdk (m_isDigit hB hL h) ?_)
      rw [q]
      show (if (1 : Int) ≠ 0 then _ else _) = _
      rw [if_pos (by decide)]
      refine bdk z9I ?_
      rw [hm.1.2.2.1]
      exact bdk hd hR
    by_cases q1 : lo ≤ rv B L (sk B L b) ∧ rv B L (sk B L b) ≤ hi
    · refine ⟨cv B L (sk B L b), u2 I 1170 39 (de B L (sk B L b) : Nat), pre ?_, c2, Or.inl ⟨⟨q, ok1.2 q1⟩, rfl, hx⟩⟩
      unfold D_X9_number_108 D_X9_number_124 D_X9_number_137
      refine bdk (within1 q1) ?_
      show (if (1 : Int) ≠ 0 then _ else _) = _
      rw [if_pos (by decide)]
      refine bdk z9I ?_
      rw [hx.2, if_neg (by decide), ok2 (ok1.2 q1)]
    · refine ⟨lo, wro (u2 I 1170 39 (de B L (sk B L b) : Nat)) 2 (sk B L b : Nat), pre ?_, c2.t MC.w, Or.inr ⟨fun w => q1 (ok1.1 w.2), rfl, by rw [hk]; exact hx.wr (by decide)⟩⟩
      unfold D_X9_number_108 D_X9_number_124 D_X9_number_137
      refine bdk (within0 q1) ?_
      show (if (0 : Int) ≠ 0 then _ else _) = _
      rw [if_neg (by decide)]
      refine bdk z9T (bdk (m_wrong hx.2) (bdk z9I ?_))
      rw [if_pos (hx.wr (k := 2) (pl := (sk B L b : Nat)) (by decide)).nz]
  | false =>
    have hk : numK B L (sk B L b) = 1 := if_neg (by rw [q]; decide)
    refine ⟨lo, wro (u2 I 1170 39 (sk B L b : Nat)) 1 (sk B L b : Nat), ?_, c1.t MC.w, Or.inr ⟨fun w => absurd w.1 (by rw [q]; decide), rfl, by rw [hk]; exact hm.wr (by decide)⟩⟩
    have hs2 := m_sign (n := n) (c := c) (W := W) (p := p) hB hL hm.1
    rw [sk_sk, u2_u2] at hs2
    refine bdk z9T (bdk (m_isDigit hB hL h) ?_)
    rw [q]
    show (if (0 : Int) ≠ 0 then _ else _) = _
    rw [if_neg (by decide)]
    refine bdk z9T (bdk hs2 (bdk z9I ?_))
    rw [hm.1.2.2.1]
    exact bdk z9T (bdk (m_wrong hm.2) rfl)
theorem m_numF {lo hi : Int} (hB : ∀ k, 0 ≤ B k ∧ B k < 256) (hL : L ≤ 500) (h : MF B L k pl I) : ∃ I', D_X9_number 1170 lo hi (st true n c I W p) = some (lo, st true n c I' W p) ∧ MC I I' ∧ MF B L k pl I' := by
  obtain ⟨⟨b, h1⟩, h2, h3⟩ := id h
  have hm := h.mv (sk_le (B := B) (i := b) h1.2.2.2)
  refine ⟨_, ?_, MC.u (by decide), hm⟩
  unfold D_X9_number
  refine bdk z9T (bdk (m_isDigitF h) ?_)
  show (if (0 : Int) ≠ 0 then _ else _) = _
  rw [if_neg (by decide)]
  exact bdk z9T (bdk (m_sign hB hL h1) (bdk z9I (bdk z9T (bdk (m_wrongF hm) rfl))))
theorem m_name (hB : ∀ k, 0 ≤ B k ∧ B k < 256) (hL : L ≤ 500) (h : MX B L b I) : ∃ I', D_X9_nameHere 1170 (st true n c I W p) = some (((sk B L b : Nat) : Int), st true n c I' W p) ∧ MC I I' ∧ ((nmOk B L (sk B L b) ∧ MX B L (we B L (sk B L b)) I' ∧ I' 1170 41 = ((we B L (sk B L b) - sk B L b : Nat) : Int)) ∨ (¬ nmOk B L (sk B L b) ∧ MF B L 1 (sk B L b : Nat) I')) := by
  have hl := sk_le (B := B) h.1.2.2.2
  have hm := h.mv hl
  have hwl := we_le (B := B) hl
  have hwg := we_ge (B := B) (L := L) (i := sk B L b)
  unfold D_X9_nameHere D_X9_nameHere_59
  cases q : isLt B L (sk B L b) with
  | true =>
    have pre : ∀ {R : Option (Int × mS)}, (if ((we B L (sk B L b) - sk B L b : Nat) : Int) ≤ 6 then
        (gI (st true n c (u2 (u2 I 1170 39 (sk B L b : Nat)) 1170 41 ((we B L (sk B L b) - sk B L b : Nat) : Int)) W p) 1170 8 41).bind fun v1 => (pI (st true n c (u2 (u2 I 1170 39 (sk B L b : Nat)) 1170 41 ((we B L (sk B L b) - sk B L b : Nat) : Int)) W p) 1170 8 39 (mw (((sk B L b : Nat) : Int) + v1))).bind fun s2 => some (((sk B L b : Nat) : Int), s2)
      else (tgO (st true n c (u2 (u2 I 1170 39 (sk B L b : Nat)) 1170 41 ((we B L (sk B L b) - sk B L b : Nat) : Int)) W p) 1170 8).bind fun _ => (D_X9_wrong 1170 1 (sk B L b : Nat) (st true n c (u2 (u2 I 1170 39 (sk B L b : Nat)) 1170 41 ((we B L (sk B L b) - sk B L b : Nat) : Int)) W p)).bind fun r7 => (gI r7 1170 8 41).bind fun v1 => (pI r7 1170 8 39 (mw (((sk B L b : Nat) : Int) + v1))).bind fun s2 => some (((sk B L b : Nat) : Int), s2)) = R →
      ((tgO (st true n c I W p) 1170 8).bind fun _ => (D_X9_isWordHere 1170 (st true n c I W p)).bind fun r1 => if r1.1 ≠ 0 then
        ((gI r1.2 1170 8 39).bind fun v2 => (tgO r1.2 1170 8).bind fun _ => (D_X9_ends 1170 r1.2).bind fun r3 => (gI r1.2 1170 8 39).bind fun v4 => (pI r1.2 1170 8 41 (mw (r3 - v4))).bind fun s5 => (gI s5 1170 8 41).bind fun v6 => if v6 ≤ 6 then ((gI s5 1170 8 41).bind fun v1 => (pI s5 1170 8 39 (mw (v2 + v1))).bind fun s2 => some (v2, s2)) else (tgO s5 1170 8).bind fun _ => (D_X9_wrong 1170 1 v2 s5).bind fun r7 => (gI r7 1170 8 41).bind fun v1 => (pI r7 1170 8 39 (mw (v2 + v1))).bind fun s2 => some (v2, s2))
        else ((tgO r1.2 1170 8).bind fun _ => (D_X9_sign 1170 r1.2).bind fun r8 => (gI r8.2 1170 8 39).bind fun v9 => (tgO r8.2 1170 8).bind fun _ => (D_X9_wrong 1170 1 v9 r8.2).bind fun r10 => (gI r10 1170 8 39).bind fun v11 => some (v11, r10))) = R := by
      intro R hR
      refine bdk z9T (bdk (m_wordHere hB hL h) ?_)
      rw [q]
      show (if (1 : Int) ≠ 0 then _ else _) = _
      rw [if_pos (by decide)]
      refine bdk z9I (bdk z9T (bdk (m_ends hB hL hm.1) (bdk z9I ?_)))
      rw [hm.1.2.2.1, mw_of (by omega) (by omega), show ((we B L (sk B L b) : Nat) : Int) - ((sk B L b : Nat) : Int) = ((we B L (sk B L b) - sk B L b : Nat) : Int) by omega]
      refine bdk z9P (bdk z9I ?_)
      rw [u2_eq]
      exact hR
    have h41 := hm.pt (j := 41) (x := ((we B L (sk B L b) - sk B L b : Nat) : Int)) (Or.inr rfl)
    have cc : MC I (u2 (u2 I 1170 39 (sk B L b : Nat)) 1170 41 ((we B L (sk B L b) - sk B L b : Nat) : Int)) := (MC.u (by decide)).t (MC.u (by decide))
    by_cases q6 : we B L (sk B L b) - sk B L b ≤ 6
    · refine ⟨_, pre ?_, cc.t (MC.u (k := 39) (x := ((we B L (sk B L b) : Nat) : Int)) (by decide)), Or.inl ⟨⟨q, q6⟩, h41.mv hwl, by rw [u2_ne _ _ (by omega), u2_eq]⟩⟩
      rw [if_pos (by omega)]
      refine bdk z9I ?_
      rw [u2_eq, mw_of (by omega) (by omega), show ((sk B L b : Nat) : Int) + ((we B L (sk B L b) - sk B L b : Nat) : Int) = ((we B L (sk B L b) : Nat) : Int) by omega]
      exact bdk z9P rfl
    · have hf := h41.wr (k := 1) (pl := (sk B L b : Nat)) (by decide)
      refine ⟨_, pre ?_, (cc.t MC.w).t (MC.u (k := 39) (x := ((we B L (sk B L b) : Nat) : Int)) (by decide)), Or.inr ⟨fun w => q6 w.2, hf.mv hwl⟩⟩
      rw [if_neg (by omega)]
      refine bdk z9T (bdk (m_wrong h41.2) (bdk z9I ?_))
      have e41 : wro (u2 (u2 I 1170 39 (sk B L b : Nat)) 1170 41 ((we B L (sk B L b) - sk B L b : Nat) : Int)) 1 (sk B L b : Nat) 1170 41 = ((we B L (sk B L b) - sk B L b : Nat) : Int) := by unfold wro; rw [u2_ne _ _ (by omega), u2_ne _ _ (by omega), u2_eq]
      rw [e41, mw_of (by omega) (by omega), show ((sk B L b : Nat) : Int) + ((we B L (sk B L b) - sk B L b : Nat) : Int) = ((we B L (sk B L b) : Nat) : Int) by omega]
      exact bdk z9P rfl
  | false =>
    have hf := hm.wr (k := 1) (pl := (sk B L b : Nat)) (by decide)
    have hs2 := m_sign (n := n) (c := c) (W := W) (p := p) hB hL hm.1
    rw [sk_sk, u2_u2] at hs2
    refine ⟨_, ?_, (MC.u (by decide)).t MC.w, Or.inr ⟨fun w => absurd w.1 (by rw [q]; decide), hf⟩⟩
    refine bdk z9T (bdk (m_wordHere hB hL h) ?_)
    rw [q]
    show (if (0 : Int) ≠ 0 then _ else _) = _
    rw [if_neg (by decide)]
    refine bdk z9T (bdk hs2 (bdk z9I ?_))
    rw [hm.1.2.2.1]
    refine bdk z9T (bdk (m_wrong hm.2) (bdk z9I ?_))
    have e39 : wro (u2 I 1170 39 (sk B L b : Nat)) 1 (sk B L b : Nat) 1170 39 = (sk B L b : Nat) := by unfold wro; rw [u2_ne _ _ (by omega), u2_ne _ _ (by omega), u2_eq]
    rw [e39]
theorem m_nameF (hB : ∀ k, 0 ≤ B k ∧ B k < 256) (hL : L ≤ 500) (h : MF B L k pl I) : ∃ x I', D_X9_nameHere 1170 (st true n c I W p) = some (x, st true n c I' W p) ∧ MC I I' ∧ MF B L k pl I' := by
  obtain ⟨I1, e1, c1, f1⟩ := m_wordHereF (n := n) (c := c) (W := W) (p := p) hB hL h
  obtain ⟨⟨b, h1⟩, h2, h3⟩ := id f1
  have hm := f1.mv (sk_le (B := B) (i := b) h1.2.2.2)
  refine ⟨u2 I1 1170 39 (sk B L b : Nat) 1170 39, u2 I1 1170 39 (sk B L b : Nat), ?_, c1.t (MC.u (by decide)), hm⟩
  unfold D_X9_nameHere
  refine bdk z9T (bdk e1 ?_)
  show (if (0 : Int) ≠ 0 then _ else _) = _
  rw [if_neg (by decide)]
  exact bdk z9T (bdk (m_sign hB hL h1) (bdk z9I (bdk z9T (bdk (m_wrongF hm) (bdk z9I rfl)))))
/-- a word of the language passed -/
theorem m_passes {i : Nat} (hB : ∀ k, 0 ≤ B k ∧ B k < 256) (hL : L ≤ 500) (hi : i < 12) (h : MX B L b I) : ∃ I', D_X9_passes 1170 (2 + i) (st true n c I W p) = some (bI (isLt B L (sk B L b) && wq B (sk B L b) (we B L (sk B L b)) i), st true n c I' W p) ∧ MC I I' ∧ (((isLt B L (sk B L b) && wq B (sk B L b) (we B L (sk B L b)) i) = true ∧ MX B L (we B L (sk B L b)) I' ∧ I' 1170 40 = (sk B L b : Nat)) ∨ ((isLt B L (sk B L b) && wq B (sk B L b) (we B L (sk B L b)) i) = false ∧ MX B L (sk B L b) I')) := by
  have hl := sk_le (B := B) h.1.2.2.2
  have hm := h.mv hl
  have hwl := we_le (B := B) hl
  have hwg := we_ge (B := B) (L := L) (i := sk B L b)
  have hlen : (mStr.getD i []).length ≤ 7 := (by decide : ∀ i, i < 12 → (mStr.getD i []).length ≤ 7) i hi
  have hch : ∀ t, t < (mStr.getD i []).length → 97 ≤ (mStr.getD i []).getD t 0 ∧ (mStr.getD i []).getD t 0 ≤ 122 := (by decide : ∀ i, i < 12 → ∀ t, t < (mStr.getD i []).length → 97 ≤ (mStr.getD i []).getD t 0 ∧ (mStr.getD i []).getD t 0 ≤ 122) i hi
  have es : sLn (2 + i) = some (((mStr.getD i []).length : Nat) : Int) := by
    unfold sLn
    rw [if_pos (by omega), show 2 + i - 2 = i by omega]
  unfold D_X9_passes D_X9_passes_23
  cases q : isLt B L (sk B L b) with
  | false =>
    refine ⟨u2 I 1170 39 (sk B L b : Nat), ?_, MC.u (by decide), Or.inr ⟨rfl, hm⟩⟩
    refine bdk z9T (bdk (m_wordHere hB hL h) ?_)
    rw [q]
    rfl
  | true =>
    have pre : ∀ {R : Option (Int × mS)}, (if ((we B L (sk B L b) : Nat) : Int) - (sk B L b : Nat) = (((mStr.getD i []).length : Nat) : Int) then (D_X9_passes_27 mFU 1170 (2 + i) 0 (st true n c (u2 I 1170 39 (sk B L b : Nat)) W p)).bind fun r5 => (match r5 with
      | (Sum.inl z6) =>
        (gI (st true n c (u2 I 1170 39 (sk B L b : Nat)) W p) 1170 8 39).bind fun v7 =>
        (pI (st true n c (u2 I 1170 39 (sk B L b : Nat)) W p) 1170 8 40 v7).bind fun s8 =>
        (gI s8 1170 8 39).bind fun v9 =>
        (sLn (2 + i)).bind fun v10 =>
        (pI s8 1170 8 39 (mw (v9 + v10))).bind fun s11 =>
        (bO 1).bind fun v12 =>
        some (v12, s11)
      | (Sum.inr z13) =>
        some (z13, st true n c (u2 I 1170 39 (sk B L b : Nat)) W p)) else (bO 0).bind fun v1 => some (v1, st true n c (u2 I 1170 39 (sk B L b : Nat)) W p)) = R → D_X9_passes 1170 (2 + i) (st true n c I W p) = R := by
      intro R hR
      unfold D_X9_passes D_X9_passes_23
      refine bdk z9T (bdk (m_wordHere hB hL h) ?_)
      rw [q]
      show (if (1 : Int) = 0 then _ else _) = _
      rw [if_neg (by decide)]
      refine bdk z9T (bdk (m_ends hB hL hm.1) (bdk z9I (bdk es ?_)))
      rw [hm.1.2.2.1, mw_of (by omega) (by omega)]
      exact hR
    have pre' := @pre
    unfold D_X9_passes D_X9_passes_23 at pre'
    generalize hw : mStr.getD i [] = w at hlen es hch pre pre'
    by_cases q2 : ((we B L (sk B L b) : Nat) : Int) - (sk B L b : Nat) = ((w.length : Nat) : Int)
    · have L1 : ∀ (d t f : Nat), t + d = w.length → d < f → (∀ u, u < t → B (sk B L b + u) = w.getD u 0) → ((∀ u, u < w.length → B (sk B L b + u) = w.getD u 0) ∧ D_X9_passes_27 f 1170 (2 + i) (t : Nat) (st true n c (u2 I 1170 39 (sk B L b : Nat)) W p) = some (Sum.inl ())) ∨ ((¬ ∀ u, u < w.length → B (sk B L b + u) = w.getD u 0) ∧ D_X9_passes_27 f 1170 (2 + i) (t : Nat) (st true n c (u2 I 1170 39 (sk B L b : Nat)) W p) = some (Sum.inr 0)) := by
        intro d
        induction d with
        | zero =>
          intro t f ht hf hp
          obtain ⟨f, rfl⟩ : ∃ g, f = g + 1 := ⟨f - 1, by omega⟩
          refine Or.inl ⟨fun u hu => hp u (by omega), bdk es ?_⟩
          rw [if_pos (by omega)]
        | succ d ih =>
          intro t f ht hf hp
          obtain ⟨f, rfl⟩ : ∃ g, f = g + 1 := ⟨f - 1, by omega⟩
          have hc2 := hch t (by omega)
          have ec : sCh (2 + i) (t : Nat) = some (w.getD t 0) := by
            unfold sCh
            rw [show 2 + i - 2 = i by omega, hw, if_pos (by omega), toN]
          have hs := sb_eq (hB (sk B L b + t)) (y := w.getD t 0) (by omega)
          have pre2 : ∀ {R : Option (Unit ⊕ Int)}, (if sb (B (sk B L b + t)) = w.getD t 0 then D_X9_passes_27 f 1170 (2 + i) ((t + 1 : Nat) : Int) (st true n c (u2 I 1170 39 (sk B L b : Nat)) W p) else (bO 0).bind fun v6 => some (Sum.inr v6)) = R → D_X9_passes_27 (f + 1) 1170 (2 + i) (t : Nat) (st true n c (u2 I 1170 39 (sk B L b : Nat)) W p) = R := by
            intro R hR
            refine bdk es ?_
            rw [if_neg (by omega)]
            refine bdk z9R30 (bdk z9I ?_)
            rw [hm.1.2.2.1, mw_of (x := ((sk B L b : Nat) : Int) + (t : Nat)) (by omega) (by omega)]
            refine bdk (z9L30 (by omega) (by omega)) (bdk ec ?_)
            rw [show (((sk B L b : Nat) : Int) + (t : Nat)).toNat = sk B L b + t by omega, hm.1.1 _ (by omega), mw_n (by omega)]
            exact hR
          by_cases z : B (sk B L b + t) = w.getD t 0
          · rcases ih (t + 1) f (by omega) (by omega) (fun u hu => by
              by_cases y : u = t
              · rw [y]; exact z
              · exact hp u (by omega)) with ⟨h1, h2⟩ | ⟨h1, h2⟩
            · exact Or.inl ⟨h1, pre2 (by rw [if_pos (hs.2 z)]; exact h2)⟩
            · exact Or.inr ⟨h1, pre2 (by rw [if_pos (hs.2 z)]; exact h2)⟩
          · exact Or.inr ⟨fun y => z (y t (by omega)), pre2 (by rw [if_neg (fun y => z (hs.1 y))]; rfl)⟩
      rcases L1 w.length 0 mFU (by omega) (by unfold mFU; omega) (fun u hu => absurd hu (Nat.not_lt_zero u)) with ⟨h1, h2⟩ | ⟨h1, h2⟩
      · have ew : wq B (sk B L b) (we B L (sk B L b)) i = true := decide_eq_true (by rw [hw]; exact seg_eq.2 ⟨by omega, h1⟩)
        refine ⟨u2 (u2 (u2 I 1170 39 (sk B L b : Nat)) 1170 40 (sk B L b : Nat)) 1170 39 (we B L (sk B L b) : Nat), pre' ?_, ((MC.u (by decide)).t (MC.u (by decide))).t (MC.u (by decide)), Or.inl ⟨by rw [ew]; rfl, (hm.pt (j := 40) (x := (sk B L b : Nat)) (Or.inl rfl)).mv hwl, by rw [u2_ne _ _ (by omega), u2_eq]⟩⟩
        rw [if_pos q2]
        refine bdk h2 (bdk z9I ?_)
        rw [hm.1.2.2.1]
        refine bdk z9P (bdk z9I (bdk es ?_))
        rw [u2_ne _ _ (by omega), hm.1.2.2.1, mw_of (by omega) (by omega), show ((sk B L b : Nat) : Int) + ((w.length : Nat) : Int) = ((we B L (sk B L b) : Nat) : Int) by omega, ew]
        exact bdk z9P rfl
      · have ew : wq B (sk B L b) (we B L (sk B L b)) i = false := decide_eq_false (fun y => h1 (by rw [hw] at y; exact (seg_eq.1 y).2))
        refine ⟨u2 I 1170 39 (sk B L b : Nat), pre' ?_, MC.u (by decide), Or.inr ⟨by rw [ew]; rfl, hm⟩⟩
        rw [if_pos q2, ew]
        exact bdk h2 rfl
    · have ew : wq B (sk B L b) (we B L (sk B L b)) i = false := decide_eq_false (fun y => q2 (by rw [hw] at y; have := (seg_eq.1 y).1; omega))
      refine ⟨u2 I 1170 39 (sk B L b : Nat), pre' ?_, MC.u (by decide), Or.inr ⟨by rw [ew]; rfl, hm⟩⟩
      rw [if_neg q2, ew]
      rfl
end MRD
