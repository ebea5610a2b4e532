/-! THE PURE PART: a text's bytes: blanks, words, digits -/
/-- on as long as a predicate holds -/
def adv (P : Nat → Bool) : Nat → Nat → Nat
  | 0, i => i
  | d + 1, i => if P i = true then adv P d (i + 1) else i
def av (P : Nat → Bool) (L i : Nat) : Nat := adv P (L - i) i
section AV
variable {P : Nat → Bool} {L i : Nat}
theorem av_s (hP : ∀ j, P j = true → j < L) (h : P i = true) : av P L i = av P L (i + 1) := by
  have := hP i h
  unfold av
  rw [show L - i = (L - (i + 1)) + 1 by omega]
  show (if P i = true then adv P (L - (i + 1)) (i + 1) else i) = _
  rw [if_pos h]
theorem av_0 (h : P i = false) : av P L i = i := by
  unfold av
  cases hd : L - i with
  | zero => rfl
  | succ d =>
    show (if P i = true then adv P d (i + 1) else i) = i
    rw [if_neg (by rw [h]; decide)]
theorem av_end (h : L ≤ i) : av P L i = i := by unfold av; rw [show L - i = 0 by omega]; rfl
theorem adv_all : ∀ (d i : Nat), i ≤ adv P d i ∧ adv P d i ≤ i + d ∧ (∀ j, i ≤ j → j < adv P d i → P j = true) ∧ (adv P d i < i + d → P (adv P d i) = false) := by
  intro d
  induction d with
  | zero => intro i; exact ⟨Nat.le_refl i, Nat.le_refl i, fun j h1 h2 => absurd h2 (by show ¬ j < i; omega), fun h => absurd h (by show ¬ i < i; omega)⟩
  | succ d ih =>
    intro i
    have e0 : adv P (d + 1) i = if P i = true then adv P d (i + 1) else i := rfl
    rw [e0]
    by_cases q : P i = true
    · rw [if_pos q]
      obtain ⟨h1, h2, h3, h4⟩ := ih (i + 1)
      refine ⟨by omega, by omega, fun j j1 j2 => ?_, fun h => h4 (by omega)⟩
      by_cases e : j = i
      · rw [e]; exact q
      · exact h3 j (by omega) j2
    · rw [if_neg q]
      refine ⟨Nat.le_refl i, by omega, fun j j1 j2 => by omega, fun _ => ?_⟩
      cases z : P i
      · rfl
      · exact absurd z q
theorem av_ge : i ≤ av P L i := (adv_all _ _).1
theorem av_le (h : i ≤ L) : av P L i ≤ L := by have := (adv_all (P := P) (L - i) i).2.1; unfold av; omega
theorem av_yes {j : Nat} (h1 : i ≤ j) (h2 : j < av P L i) : P j = true := (adv_all (P := P) (L - i) i).2.2.1 j h1 h2
theorem av_no (hP : ∀ j, P j = true → j < L) : P (av P L i) = false := by
  by_cases q : av P L i < i + (L - i)
  · exact (adv_all (P := P) (L - i) i).2.2.2 q
  · cases z : P (av P L i)
    · rfl
    · have := hP _ z; omega
end AV
def isLt (B : Nat → Int) (L k : Nat) : Bool := decide (k < L ∧ 97 ≤ B k ∧ B k ≤ 122)
def isDg (B : Nat → Int) (L k : Nat) : Bool := decide (k < L ∧ 48 ≤ B k ∧ B k ≤ 57)
def isBl (B : Nat → Int) (L k : Nat) : Bool := decide (k < L ∧ B k = 32)
def sk (B : Nat → Int) (L i : Nat) : Nat := av (isBl B L) L i
def we (B : Nat → Int) (L i : Nat) : Nat := av (isLt B L) L i
/-- the byte that stands at a place; -1: the end -/
def pk (B : Nat → Int) (L j : Nat) : Int := if j < L then B j else -1
section CHR
variable {B : Nat → Int} {L i j : Nat}
theorem isLt_1 (h : isLt B L j = true) : j < L ∧ 97 ≤ B j ∧ B j ≤ 122 := of_decide_eq_true h
theorem isDg_1 (h : isDg B L j = true) : j < L ∧ 48 ≤ B j ∧ B j ≤ 57 := of_decide_eq_true h
theorem isBl_1 (h : isBl B L j = true) : j < L ∧ B j = 32 := of_decide_eq_true h
theorem isLt_0 (h : isLt B L j = false) : ¬ (j < L ∧ 97 ≤ B j ∧ B j ≤ 122) := of_decide_eq_false h
theorem isDg_0 (h : isDg B L j = false) : ¬ (j < L ∧ 48 ≤ B j ∧ B j ≤ 57) := of_decide_eq_false h
theorem isBl_0 (h : isBl B L j = false) : ¬ (j < L ∧ B j = 32) := of_decide_eq_false h
theorem isLt_L : ∀ j, isLt B L j = true → j < L := fun _ h => (isLt_1 h).1
theorem isDg_L : ∀ j, isDg B L j = true → j < L := fun _ h => (isDg_1 h).1
theorem isBl_L : ∀ j, isBl B L j = true → j < L := fun _ h => (isBl_1 h).1
theorem sk_ge : i ≤ sk B L i := av_ge
theorem sk_le (h : i ≤ L) : sk B L i ≤ L := av_le h
theorem sk_no : isBl B L (sk B L i) = false := av_no isBl_L
theorem sk_at (h : isBl B L i = false) : sk B L i = i := av_0 h
theorem sk_sk : sk B L (sk B L i) = sk B L i := sk_at sk_no
theorem sk_not (h : i < L → B i ≠ 32) : sk B L i = i := sk_at (decide_eq_false (fun w => h w.1 w.2))
theorem pkL (h : pk B L j ≠ -1) : j < L := by unfold pk at h; by_cases q : j < L; exact q; rw [if_neg q] at h; exact absurd rfl h
theorem pk_at (h : j < L) : pk B L j = B j := if_pos h
theorem pk_end (h : ¬ j < L) : pk B L j = -1 := if_neg h
theorem we_ge : i ≤ we B L i := av_ge
theorem we_le (h : i ≤ L) : we B L i ≤ L := av_le h
theorem we_gt (h : isLt B L i = true) : i < we B L i := by
  have e : we B L i = we B L (i + 1) := av_s isLt_L h
  have := we_ge (B := B) (L := L) (i := i + 1)
  omega
theorem we_yes (h1 : i ≤ j) (h2 : j < we B L i) : isLt B L j = true := av_yes h1 h2
theorem we_no : isLt B L (we B L i) = false := av_no isLt_L
/-- as the reference holds a byte -/
theorem sb_lo {x : Int} (h : x < 128) : sb x = x := if_pos h
theorem sb_eq {x y : Int} (hx : 0 ≤ x ∧ x < 256) (hy : 0 ≤ y ∧ y < 128) : sb x = y ↔ x = y := by unfold sb; split <;> omega
theorem sb_lt {x y : Int} (hx : 0 ≤ x ∧ x < 256) (hy : 0 ≤ y ∧ y < 128) : (y ≤ sb x) ↔ (y ≤ x ∧ x < 128) := by unfold sb; split <;> omega
theorem sb_rng {x : Int} (hx : 0 ≤ x ∧ x < 256) : -128 ≤ sb x ∧ sb x < 128 := by unfold sb; split <;> omega
end CHR
theorem u2_same {I : Nat → Nat → Int} {a k : Nat} {v : Int} (h : I a k = v) : u2 I a k v = I := by
  funext b j
  rw [u2_def]
  by_cases q : b = a ∧ j = k
  · rw [if_pos q, q.1, q.2, h]
  · rw [if_neg q]
theorem u2_u2 {I : Nat → Nat → Int} {a k : Nat} {v w : Int} : u2 (u2 I a k v) a k w = u2 I a k w := by
  funext b j
  rw [u2_def, u2_def, u2_def]
  by_cases q : b = a ∧ j = k
  · rw [if_pos q, if_pos q]
  · rw [if_neg q, if_neg q, if_neg q]
/-! the desk's reader -/
/-- ready at a place -/
def CX (B : Nat → Int) (L a : Nat) (I : Nat → Nat → Int) : Prop := (∀ k, k < L → I 109 k = B k) ∧ I 111 4 = L ∧ I 111 1 = 0 ∧ I 111 5 = (a : Nat) ∧ a ≤ L
/-- failed -/
def CF (B : Nat → Int) (L : Nat) (k pl : Int) (I : Nat → Nat → Int) : Prop := (∀ j, j < L → I 109 j = B j) ∧ I 111 4 = L ∧ (I 111 1 = k ∧ 0 < k) ∧ I 111 2 = pl ∧ ∃ a : Nat, I 111 5 = (a : Nat) ∧ a ≤ L
/-- the reader's own numbers alone have changed -/
def CC (I I' : Nat → Nat → Int) : Prop := Fr (fun b k => b = 111 ∧ (k = 1 ∨ k = 2 ∨ 5 ≤ k ∧ k ≤ 7)) I I'
theorem CC.r {I : Nat → Nat → Int} : CC I I := Fr.rfl'
theorem CC.t {I J K : Nat → Nat → Int} (h : CC I J) (h2 : CC J K) : CC I K := Fr.trans' h h2
theorem CC.u {I : Nat → Nat → Int} {k : Nat} {x : Int} (h : k = 1 ∨ k = 2 ∨ 5 ≤ k ∧ k ≤ 7) : CC I (u2 I 111 k x) := fun b j q => u2_ne _ _ (fun w => q ⟨w.1, by rw [w.2]; exact h⟩)
section CRD
variable {n : Nat} {c : Nat × Nat × Nat × Nat} {I : Nat → Nat → Int} {W : Nat → Nat → BitVec 64} {p : Nat → Nat} {B : Nat → Int} {L a : Nat} {k pl : Int}
theorem h111 : HC true 111 = (3, 12) := by decide +kernel
theorem y2I {j : Nat} : gI (st true n c I W p) 111 2 j = some (I 111 j) := s_gI h111
theorem y2P {j : Nat} {x : Int} : pI (st true n c I W p) 111 2 j x = some (st true n c (u2 I 111 j x) W p) := s_pI h111
theorem y2B {j : Nat} {x : Int} (h : x = 0 ∨ x = 1) : pB (st true n c I W p) 111 2 j x = some (st true n c (u2 I 111 j x) W p) := s_pB h111 h
theorem y2T : tgO (st true n c I W p) 111 2 = some () := s_tgO h111
theorem y2R0 : gR (st true n c I W p) 111 2 0 = some 112 := s_gR h111 (by decide)
theorem y2R3 : gR (st true n c I W p) 111 2 3 = some 109 := s_gR h111 (by decide)
theorem y2R10 : gR (st true n c I W p) 111 2 10 = some 186 := s_gR h111 (by decide)
theorem y2R11 : gR (st true n c I W p) 111 2 11 = some 187 := s_gR h111 (by decide)
theorem CX.mv (h : CX B L a I) {a' : Nat} (ha : a' ≤ L) : CX B L a' (u2 I 111 5 (a' : Nat)) := by
  obtain ⟨h1, h2, h3, h4, h5⟩ := h
  exact ⟨fun k hk => by rw [u2_ne _ _ (by omega)]; exact h1 k hk, by rw [u2_ne _ _ (by omega)]; exact h2, by rw [u2_ne _ _ (by omega)]; exact h3, by rw [u2_eq], ha⟩
theorem c_blank (hL : L ≤ 500) : ∀ (d a f : Nat) (I : Nat → Nat → Int), a + d = L → d < f → CX B L a I → D_X2_peek_0 f 111 (st true n c I W p) = some (st true n c (u2 I 111 5 (sk B L a : Nat)) W p) := by
  intro d
  induction d with
  | zero =>
    intro a f I ha hf h
    obtain ⟨f, rfl⟩ : ∃ g, f = g + 1 := ⟨f - 1, by omega⟩
    obtain ⟨h1, h2, h3, h4, h5⟩ := h
    refine bdk y2I ?_
    rw [h3, if_neg (by decide)]
    refine bdk y2I (bdk y2I ?_)
    rw [h4, h2, if_pos (by omega)]
    have e : sk B L a = a := av_end (by omega)
    rw [e, u2_same h4]
  | succ d ih =>
    intro a f I ha hf h
    obtain ⟨f, rfl⟩ : ∃ g, f = g + 1 := ⟨f - 1, by omega⟩
    have hx := h
    obtain ⟨h1, h2, h3, h4, h5⟩ := h
    refine bdk y2I ?_
    rw [h3, if_neg (by decide)]
    refine bdk y2I (bdk y2I ?_)
    rw [h4, h2, if_neg (by omega)]
    refine bdk y2R3 (bdk y2I ?_)
    rw [h4]
    refine bdk (z8L109 (by omega) (by omega)) ?_
    rw [toN, h1 a (by omega)]
    by_cases q : B a = 32
    · rw [if_neg (fun w => w q)]
      refine bdk y2I ?_
      rw [h4, mw_n (by omega)]
      refine bdk y2P ?_
      rw [ih (a + 1) f _ (by omega) (by omega) (hx.mv (a' := a + 1) (by omega)), u2_u2]
      have e : sk B L a = sk B L (a + 1) := av_s isBl_L (decide_eq_true ⟨by omega, q⟩)
      rw [e]
    · rw [if_pos q]
      have e : sk B L a = a := sk_at (decide_eq_false (fun w => q w.2))
      rw [e, u2_same h4]
theorem c_pk45 (hL : L ≤ 500) (h : CX B L a I) : D_X2_peek_45 111 (st true n c I W p) = some (pk B L a, st true n c I W p) := by
  obtain ⟨h1, h2, h3, h4, h5⟩ := h
  unfold D_X2_peek_45 D_X2_peek_69
  refine bdk y2I (bdk y2I ?_)
  rw [h4, h2]
  by_cases q : a < L
  · rw [if_neg (by omega), pk_at q]
    refine bdk y2R3 (bdk y2I ?_)
    rw [h4]
    refine bdk (z8L109 (by omega) (by omega)) ?_
    rw [toN, h1 a q]
  · rw [if_pos (by omega), pk_end q]
theorem c_peek (hL : L ≤ 500) (h : CX B L a I) : D_X2_peek 111 (st true n c I W p) = some (pk B L (sk B L a), st true n c (u2 I 111 5 (sk B L a : Nat)) W p) := by
  have hx := h
  obtain ⟨h1, h2, h3, h4, h5⟩ := h
  unfold D_X2_peek
  refine bdk y2I ?_
  rw [h3, if_neg (by decide)]
  refine bdk y2I (bdk y2I ?_)
  rw [h4, h2]
  by_cases q : a < L
  · rw [if_neg (by omega)]
    refine bdk y2R3 (bdk y2I ?_)
    rw [h4]
    refine bdk (z8L109 (by omega) (by omega)) ?_
    rw [toN, h1 a q]
    by_cases q2 : B a = 32
    · rw [if_neg (fun w => w q2)]
      refine bdk y2I ?_
      rw [h4, mw_n (by omega)]
      have e : sk B L a = sk B L (a + 1) := av_s isBl_L (decide_eq_true ⟨q, q2⟩)
      have hb := c_blank (n := n) (c := c) (W := W) (p := p) hL (L - (a + 1)) (a + 1) mFU _ (by omega) (by unfold mFU; omega) (hx.mv (a' := a + 1) (by omega))
      rw [u2_u2] at hb
      refine bdk y2P (bdk hb ?_)
      rw [← e]
      exact c_pk45 hL (hx.mv (sk_le (by omega)))
    · rw [if_pos q2]
      have e : sk B L a = a := sk_at (decide_eq_false (fun w => q2 w.2))
      rw [e, u2_same h4]
      exact c_pk45 hL hx
  · rw [if_pos (by omega)]
    have e : sk B L a = a := av_end (by omega)
    rw [e, u2_same h4]
    exact c_pk45 hL hx
theorem c_peekF (hL : L ≤ 500) (h : CF B L k pl I) : ∃ v, D_X2_peek 111 (st true n c I W p) = some (v, st true n c I W p) := by
  obtain ⟨h1, h2, ⟨h3, hk⟩, h4, a, h5, h6⟩ := h
  unfold D_X2_peek D_X2_peek_45 D_X2_peek_69
  by_cases q : a < L
  · refine ⟨B a, bdk y2I ?_⟩
    rw [h3, if_pos (by omega)]
    refine bdk y2I (bdk y2I ?_)
    rw [h5, h2, if_neg (by omega)]
    refine bdk y2R3 (bdk y2I ?_)
    rw [h5]
    refine bdk (z8L109 (by omega) (by omega)) ?_
    rw [toN, h1 a q]
  · refine ⟨-1, bdk y2I ?_⟩
    rw [h3, if_pos (by omega)]
    refine bdk y2I (bdk y2I ?_)
    rw [h5, h2, if_pos (by omega)]
/-- failing at a place -/
def cfl (I : Nat → Nat → Int) (k pl : Int) : Nat → Nat → Int := u2 (u2 I 111 1 k) 111 2 pl
theorem c_fail (h : I 111 1 = 0) : D_X2_fail 111 k pl (st true n c I W p) = some (st true n c (cfl I k pl) W p) := by
  unfold D_X2_fail D_X2_fail_17
  refine bdk y2I ?_
  rw [h, if_neg (by decide)]
  exact bdk y2P (bdk y2P rfl)
theorem c_failF {k' pl' : Int} (h : I 111 1 ≠ 0) : D_X2_fail 111 k' pl' (st true n c I W p) = some (st true n c I W p) := by
  unfold D_X2_fail D_X2_fail_17
  refine bdk y2I ?_
  rw [if_pos h]
theorem CX.fl (h : CX B L a I) (hk : 0 < k) : CF B L k pl (cfl I k pl) := by
  obtain ⟨h1, h2, h3, h4, h5⟩ := h
  unfold cfl
  refine ⟨fun j hj => by rw [u2_ne _ _ (by omega), u2_ne _ _ (by omega)]; exact h1 j hj, by rw [u2_ne _ _ (by omega), u2_ne _ _ (by omega)]; exact h2, ⟨by rw [u2_ne _ _ (by omega), u2_eq], hk⟩, by rw [u2_eq], a, by rw [u2_ne _ _ (by omega), u2_ne _ _ (by omega)]; exact h4, h5⟩
theorem CC.fl : CC I (cfl I k pl) := (CC.u (Or.inl rfl)).t (CC.u (Or.inr (Or.inl rfl)))
theorem CF.nz (h : CF B L k pl I) : I 111 1 ≠ 0 := by obtain ⟨-, -, ⟨h3, hk⟩, -⟩ := h; omega
theorem c_sign {x : Int} (hL : L ≤ 500) (hx : 0 ≤ x) (h : CX B L a I) : ∃ I', D_X2_readSign 111 x (st true n c I W p) = some (st true n c I' W p) ∧ CC I I' ∧ ((pk B L (sk B L a) = x ∧ CX B L (sk B L a + 1) I') ∨ (pk B L (sk B L a) ≠ x ∧ CF B L 1 (sk B L a : Nat) I')) := by
  have hm := h.mv (sk_le (B := B) h.2.2.2.2)
  unfold D_X2_readSign D_X2_readSign_37
  by_cases q : pk B L (sk B L a) = x
  · have hl : sk B L a < L := pkL (by rw [q]; omega)
    refine ⟨u2 I 111 5 ((sk B L a + 1 : Nat) : Int), ?_, CC.u (Or.inr (Or.inr (by decide))), Or.inl ⟨q, h.mv (by omega)⟩⟩
    refine bdk y2T (bdk (c_peek hL h) ?_)
    rw [if_pos q]
    refine bdk y2I ?_
    rw [hm.2.2.1, if_neg (by decide)]
    refine bdk y2I ?_
    rw [hm.2.2.2.1, mw_n (by omega)]
    refine bdk y2P ?_
    rw [u2_u2]
  · refine ⟨_, ?_, (CC.u (Or.inr (Or.inr (by decide)))).t CC.fl, Or.inr ⟨q, hm.fl (by decide)⟩⟩
    refine bdk y2T (bdk (c_peek hL h) ?_)
    rw [if_neg q]
    refine bdk y2I (bdk y2T ?_)
    rw [hm.2.2.2.1]
    exact bdk (c_fail hm.2.2.1) rfl
theorem c_signF {x : Int} (hL : L ≤ 500) (h : CF B L k pl I) : D_X2_readSign 111 x (st true n c I W p) = some (st true n c I W p) := by
  obtain ⟨v, ev⟩ := c_peekF (n := n) (c := c) (W := W) (p := p) hL h
  unfold D_X2_readSign D_X2_readSign_37
  refine bdk y2T (bdk ev ?_)
  by_cases q : v = x
  · rw [if_pos q]
    refine bdk y2I ?_
    rw [if_pos h.nz]
  · rw [if_neg q]
    exact bdk y2I (bdk y2T (bdk (c_failF h.nz) rfl))
theorem c_isDigit {x : Int} {σ : mS} : D_X2_isDigit x σ = some (bI (decide (48 ≤ x ∧ x ≤ 57))) := by
  unfold D_X2_isDigit D_X2_isDigit_16 D_X2_isDigit_17
  by_cases q1 : x < 48
  · rw [if_pos q1, decide_eq_false (by omega)]; rfl
  rw [if_neg q1]
  by_cases q2 : 57 < x
  · rw [if_pos q2, decide_eq_false (by omega)]; rfl
  rw [if_neg q2, decide_eq_true (by omega)]; rfl
theorem c_isLetter {x : Int} {σ : mS} : D_X2_isLetter x σ = some (bI (decide (97 ≤ x ∧ x ≤ 122))) := by
  unfold D_X2_isLetter D_X2_isLetter_16 D_X2_isLetter_17
  by_cases q1 : x < 97
  · rw [if_pos q1, decide_eq_false (by omega)]; rfl
  rw [if_neg q1]
  by_cases q2 : 122 < x
  · rw [if_pos q2, decide_eq_false (by omega)]; rfl
  rw [if_neg q2, decide_eq_true (by omega)]; rfl
theorem pk_dg {j : Nat} : decide (48 ≤ pk B L j ∧ pk B L j ≤ 57) = isDg B L j := by
  unfold isDg
  by_cases q : j < L
  · rw [pk_at q]
    by_cases z : 48 ≤ B j ∧ B j ≤ 57
    · rw [decide_eq_true z, decide_eq_true ⟨q, z⟩]
    · rw [decide_eq_false z, decide_eq_false (fun w => z w.2)]
  · rw [pk_end q, decide_eq_false (by omega), decide_eq_false (fun w => q w.1)]
theorem pk_lt2 {j : Nat} : decide (97 ≤ pk B L j ∧ pk B L j ≤ 122) = isLt B L j := by
  unfold isLt
  by_cases q : j < L
  · rw [pk_at q]
    by_cases z : 97 ≤ B j ∧ B j ≤ 122
    · rw [decide_eq_true z, decide_eq_true ⟨q, z⟩]
    · rw [decide_eq_false z, decide_eq_false (fun w => z w.2)]
  · rw [pk_end q, decide_eq_false (by omega), decide_eq_false (fun w => q w.1)]
end CRD
