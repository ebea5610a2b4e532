/-! THE PURE PART: the desk reads numbers, words, names -/
def de (B : Nat → Int) (L i : Nat) : Nat := av (isDg B L) L i
def cvN (B : Nat → Int) (L : Nat) : Nat → Nat → Int → Int
  | 0, _, v => v
  | d + 1, i, v => if isDg B L i = true then cvN B L d (i + 1) (if v < 100000 then 10 * v + B i - 48 else v) else v
def cv (B : Nat → Int) (L i : Nat) : Int := cvN B L (L - i) i 0
def rvN (B : Nat → Int) (L : Nat) : Nat → Nat → Int → Int
  | 0, _, v => v
  | d + 1, i, v => if isDg B L i = true then rvN B L d (i + 1) (if 1000000 < 10 * v + B i - 48 then 1000000 else 10 * v + B i - 48) else v
def rv (B : Nat → Int) (L i : Nat) : Int := rvN B L (L - i) i 0
/-- the desk's number and the reference's -/
def nvR (x r : Int) : Prop := (x = r ∧ 0 ≤ x ∧ x < 100000) ∨ (100000 ≤ x ∧ x ≤ 1000009 ∧ 100000 ≤ r ∧ r ≤ 1000000)
theorem nvR_N {B : Nat → Int} {L : Nat} : ∀ (d i : Nat) (x r : Int), nvR x r → nvR (cvN B L d i x) (rvN B L d i r) := by
  intro d
  induction d with
  | zero => intro i x r h; exact h
  | succ d ih =>
    intro i x r h
    have e1 : cvN B L (d + 1) i x = if isDg B L i = true then cvN B L d (i + 1) (if x < 100000 then 10 * x + B i - 48 else x) else x := rfl
    have e2 : rvN B L (d + 1) i r = if isDg B L i = true then rvN B L d (i + 1) (if 1000000 < 10 * r + B i - 48 then 1000000 else 10 * r + B i - 48) else r := rfl
    rw [e1, e2]
    by_cases q : isDg B L i = true
    · rw [if_pos q, if_pos q]
      refine ih _ _ _ ?_
      have hd := (isDg_1 q).2
      unfold nvR at h ⊢
      rcases h with ⟨rfl, h1, h2⟩ | ⟨h1, h2, h3, h4⟩
      · rw [if_pos h2, if_neg (by omega)]
        omega
      · rw [if_neg (by omega)]
        by_cases z : 1000000 < 10 * r + B i - 48
        · rw [if_pos z]; omega
        · rw [if_neg z]; omega
    · rw [if_neg q, if_neg q]; exact h
theorem nvR_v {B : Nat → Int} {L i : Nat} : nvR (cv B L i) (rv B L i) := nvR_N _ _ _ _ (Or.inl ⟨rfl, by decide, by decide⟩)
theorem nvR_ok {x r lo hi : Int} (h : nvR x r) (hh : hi < 100000) : (lo ≤ x ∧ x ≤ hi ↔ lo ≤ r ∧ r ≤ hi) ∧ (lo ≤ x ∧ x ≤ hi → x = r) := by
  unfold nvR at h
  constructor
  · constructor <;> intro w <;> omega
  · intro w; omega
/-- a name's letters as one number -/
def nv (B : Nat → Int) (j : Nat) : Nat → Int
  | 0 => 0
  | l + 1 => 27 * nv B j l + (B (j + l) - 96)
theorem nv_rng {B : Nat → Int} {j : Nat} : ∀ l, (∀ t, t < l → 97 ≤ B (j + t) ∧ B (j + t) ≤ 122) → 0 ≤ nv B j l ∧ nv B j l + 1 ≤ (27 : Int) ^ l := by
  intro l
  induction l with
  | zero => intro _; exact ⟨(by decide : (0 : Int) ≤ 0), (by decide : (0 : Int) + 1 ≤ 27 ^ 0)⟩
  | succ l ih =>
    intro h
    obtain ⟨h1, h2⟩ := ih (fun t ht => h t (by omega))
    have hb := h l (by omega)
    have e : nv B j (l + 1) = 27 * nv B j l + (B (j + l) - 96) := rfl
    rw [e, Int.pow_succ]
    omega
theorem nv_6 {B : Nat → Int} {j l : Nat} (hl : l ≤ 6) (h : ∀ t, t < l → 97 ≤ B (j + t) ∧ B (j + t) ≤ 122) : 0 ≤ nv B j l ∧ nv B j l ≤ 387420488 := by
  obtain ⟨h1, h2⟩ := nv_rng l h
  have : (27 : Int) ^ l ≤ 387420489 := by
    have : l = 0 ∨ l = 1 ∨ l = 2 ∨ l = 3 ∨ l = 4 ∨ l = 5 ∨ l = 6 := by omega
    rcases this with rfl | rfl | rfl | rfl | rfl | rfl | rfl <;> decide
  omega
theorem nv_inj {B : Nat → Int} : ∀ (l l' j j' : Nat), (∀ t, t < l → 97 ≤ B (j + t) ∧ B (j + t) ≤ 122) → (∀ t, t < l' → 97 ≤ B (j' + t) ∧ B (j' + t) ≤ 122) → nv B j l = nv B j' l' → l = l' ∧ ∀ t, t < l → B (j + t) = B (j' + t) := by
  intro l
  induction l with
  | zero =>
    intro l' j j' _ h2 e
    cases l' with
    | zero => exact ⟨rfl, fun t ht => absurd ht (Nat.not_lt_zero t)⟩
    | succ m =>
      have e0 : nv B j' (m + 1) = 27 * nv B j' m + (B (j' + m) - 96) := rfl
      have e1 : nv B j 0 = 0 := rfl
      have r := (nv_rng m (fun t ht => h2 t (by omega))).1
      have hb := h2 m (by omega)
      omega
  | succ l ih =>
    intro l' j j' h1 h2 e
    have e1 : nv B j (l + 1) = 27 * nv B j l + (B (j + l) - 96) := rfl
    have hb := h1 l (by omega)
    have r := (nv_rng l (fun t ht => h1 t (by omega))).1
    cases l' with
    | zero =>
      have e0 : nv B j' 0 = 0 := rfl
      omega
    | succ m =>
      have e0 : nv B j' (m + 1) = 27 * nv B j' m + (B (j' + m) - 96) := rfl
      have hb2 := h2 m (by omega)
      have r2 := (nv_rng m (fun t ht => h2 t (by omega))).1
      have hd : B (j + l) = B (j' + m) := by omega
      obtain ⟨k1, k2⟩ := ih m j j' (fun t ht => h1 t (by omega)) (fun t ht => h2 t (by omega)) (by omega)
      refine ⟨by omega, fun t ht => ?_⟩
      by_cases q : t = l
      · rw [q, hd, k1]
      · exact k2 t (by omega)
theorem nv_cong {B : Nat → Int} {j j' : Nat} : ∀ l, (∀ t, t < l → B (j + t) = B (j' + t)) → nv B j l = nv B j' l := by
  intro l
  induction l with
  | zero => intro _; rfl
  | succ l ih =>
    intro h
    show 27 * nv B j l + (B (j + l) - 96) = 27 * nv B j' l + (B (j' + l) - 96)
    rw [ih (fun t ht => h t (by omega)), h l (by omega)]
/-- the first in a row that is so much; -1: none -/
def fiN (f : Nat → Int) (v : Int) : Nat → Nat → Int
  | 0, _ => -1
  | d + 1, k => if f k = v then (k : Int) else fiN f v d (k + 1)
theorem fi_no {f : Nat → Int} {v : Int} : ∀ d k, (∀ j, k ≤ j → j < k + d → f j ≠ v) → fiN f v d k = -1 := by
  intro d
  induction d with
  | zero => intro k _; rfl
  | succ d ih =>
    intro k h
    show (if f k = v then (k : Int) else fiN f v d (k + 1)) = -1
    rw [if_neg (h k (Nat.le_refl k) (by omega))]
    exact ih (k + 1) (fun j h1 h2 => h j (by omega) (by omega))
theorem fi_spec {f : Nat → Int} {v : Int} : ∀ d k, (fiN f v d k = -1 ∧ ∀ j, k ≤ j → j < k + d → f j ≠ v) ∨ ∃ j : Nat, fiN f v d k = j ∧ k ≤ j ∧ j < k + d ∧ f j = v := by
  intro d
  induction d with
  | zero => intro k; exact Or.inl ⟨rfl, fun j h1 h2 => by omega⟩
  | succ d ih =>
    intro k
    have e : fiN f v (d + 1) k = if f k = v then (k : Int) else fiN f v d (k + 1) := rfl
    rw [e]
    by_cases q : f k = v
    · rw [if_pos q]; exact Or.inr ⟨k, rfl, Nat.le_refl k, by omega, q⟩
    · rw [if_neg q]
      rcases ih (k + 1) with ⟨h1, h2⟩ | ⟨j, h1, h2, h3, h4⟩
      · refine Or.inl ⟨h1, fun j j1 j2 => ?_⟩
        by_cases z : j = k
        · rw [z]; exact q
        · exact h2 j (by omega) (by omega)
      · exact Or.inr ⟨j, h1, by omega, by omega, h4⟩
theorem fi_cong {f f' : Nat → Int} {v : Int} : ∀ d k, (∀ j, k ≤ j → j < k + d → f j = f' j) → fiN f v d k = fiN f' v d k := by
  intro d
  induction d with
  | zero => intro k _; rfl
  | succ d ih =>
    intro k h
    show (if f k = v then (k : Int) else fiN f v d (k + 1)) = (if f' k = v then (k : Int) else fiN f' v d (k + 1))
    rw [h k (Nat.le_refl k) (by omega), ih (k + 1) (fun j h1 h2 => h j (by omega) (by omega))]
/-- a word's bytes -/
def seg (B : Nat → Int) (j e : Nat) : List Int := (List.range (e - j)).map (fun t => B (j + t))
def wq (B : Nat → Int) (j e i : Nat) : Bool := decide (seg B j e = mStr.getD i [])
theorem wq_uniq {B : Nat → Int} {j e i i' : Nat} (hi : i < 12) (hi' : i' < 12) (h : wq B j e i = true) (h2 : wq B j e i' = true) : i = i' := by
  have a := of_decide_eq_true h
  have b := of_decide_eq_true h2
  exact (by decide : ∀ i, i < 12 → ∀ i', i' < 12 → mStr.getD i [] = mStr.getD i' [] → i = i') i hi i' hi' (a.symm.trans b)
theorem seg_eq {B : Nat → Int} {j e : Nat} {w : List Int} : seg B j e = w ↔ e - j = w.length ∧ ∀ t, t < w.length → B (j + t) = w.getD t 0 := by
  unfold seg
  constructor
  · intro h
    subst h
    refine ⟨by simp, fun t ht => ?_⟩
    simp at ht
    simp [ht]
  · rintro ⟨h1, h2⟩
    refine List.ext_getElem (by simp [h1]) (fun t t1 t2 => ?_)
    have := h2 t t2
    simp [List.getD_eq_getElem?_getD, t2] at this
    simp [this]
section CNU
variable {n : Nat} {c : Nat × Nat × Nat × Nat} {I : Nat → Nat → Int} {W : Nat → Nat → BitVec 64} {p : Nat → Nat} {B : Nat → Int} {L a : Nat} {k pl : Int}
theorem c_dig (hL : L ≤ 500) : ∀ (d i f : Nat) (v : Int) (I : Nat → Nat → Int), i + d = L → d < f → CX B L i I → 0 ≤ v ∧ v ≤ 1000009 → D_X2_readNumber_27 f 111 v (st true n c I W p) = some (cvN B L d i v, st true n c (u2 I 111 5 (de B L i : Nat)) W p) := by
  intro d
  induction d with
  | zero =>
    intro i f v I hi hf h hv
    obtain ⟨f, rfl⟩ : ∃ g, f = g + 1 := ⟨f - 1, by omega⟩
    obtain ⟨h1, h2, h3, h4, h5⟩ := h
    refine bdk y2I ?_
    rw [h3, if_neg (by decide)]
    refine bdk y2I (bdk y2I ?_)
    have e : de B L i = i := av_end (by omega)
    rw [h4, h2, if_pos (by omega), e, u2_same h4]
    rfl
  | succ d ih =>
    intro i f v I hi hf h hv
    obtain ⟨f, rfl⟩ : ∃ g, f = g + 1 := ⟨f - 1, by omega⟩
    have hx := h
    obtain ⟨h1, h2, h3, h4, h5⟩ := h
    have e0 : cvN B L (d + 1) i v = if isDg B L i = true then cvN B L d (i + 1) (if v < 100000 then 10 * v + B i - 48 else v) else v := rfl
    refine bdk y2I ?_
    rw [h3, if_neg (by decide)]
    refine bdk y2I (bdk y2I ?_)
    rw [h4, h2, if_neg (by omega)]
    refine bdk y2R3 (bdk y2I ?_)
    rw [h4]
    refine bdk (z8L109 (by omega) (by omega)) (bdk c_isDigit ?_)
    rw [toN, h1 i (by omega), e0]
    have ed : decide (48 ≤ B i ∧ B i ≤ 57) = isDg B L i := by rw [← pk_dg, pk_at (by omega)]
    rw [ed]
    by_cases q : isDg B L i = true
    · have hd := (isDg_1 q).2
      have e : de B L i = de B L (i + 1) := av_s isDg_L q
      have step : ∀ v', 0 ≤ v' ∧ v' ≤ 1000009 → D_X2_readNumber_90 (D_X2_readNumber_27 f) 111 v' (st true n c I W p) = some (cvN B L d (i + 1) v', st true n c (u2 I 111 5 (de B L i : Nat)) W p) := by
        intro v' hv'
        unfold D_X2_readNumber_90
        refine bdk y2I ?_
        rw [h4, mw_n (by omega)]
        refine bdk y2P ?_
        rw [ih (i + 1) f v' _ (by omega) (by omega) (hx.mv (a' := i + 1) (by omega)) hv', u2_u2, e]
      rw [q, if_pos rfl]
      show (if (1 : Int) = 0 then _ else _) = _
      rw [if_neg (by decide)]
      by_cases z : 100000 ≤ v
      · rw [if_pos z, if_neg (by omega)]
        exact step v hv
      · rw [if_neg z, if_pos (by omega)]
        refine bdk y2R3 (bdk y2I ?_)
        rw [h4]
        refine bdk (z8L109 (by omega) (by omega)) ?_
        rw [toN, h1 i (by omega), mw_of (x := 10 * v) (by omega) (by omega), mw_of (x := 10 * v + B i) (by omega) (by omega), mw_of (x := 10 * v + B i - 48) (by omega) (by omega)]
        exact step _ (by omega)
    · have qf : isDg B L i = false := by
        cases z : isDg B L i
        · rfl
        · exact absurd z q
      have e : de B L i = i := av_0 qf
      rw [qf, e, u2_same h4]
      show (if (0 : Int) = 0 then _ else _) = _
      rw [if_pos rfl, if_neg (by decide)]
theorem de_gt {i : Nat} (h : isDg B L i = true) : i < de B L i := by
  have e : de B L i = de B L (i + 1) := av_s isDg_L h
  have : i + 1 ≤ de B L (i + 1) := av_ge
  omega
theorem de_le {i : Nat} (h : i ≤ L) : de B L i ≤ L := av_le h
/-- a number reads well -/
def numOk (B : Nat → Int) (L j : Nat) (lo hi : Int) : Prop := isDg B L j = true ∧ lo ≤ cv B L j ∧ cv B L j ≤ hi
def numK (B : Nat → Int) (L j : Nat) : Int := if isDg B L j = true then 2 else 1
theorem numK_p {j : Nat} : 0 < numK B L j := by unfold numK; split <;> decide
theorem c_num {lo hi : Int} (hL : L ≤ 500) (h : CX B L a I) : ∃ v I', D_X2_readNumber 111 lo hi (st true n c I W p) = some (v, st true n c I' W p) ∧ CC I I' ∧ (-1 ≤ v ∧ v ≤ 1000009) ∧ ((numOk B L (sk B L a) lo hi ∧ v = cv B L (sk B L a) ∧ CX B L (de B L (sk B L a)) I') ∨ (¬ numOk B L (sk B L a) lo hi ∧ CF B L (numK B L (sk B L a)) (sk B L a : Nat) I')) := by
  have hl := sk_le (B := B) h.2.2.2.2
  have hm := h.mv hl
  have c1 : CC I (u2 I 111 5 (sk B L a : Nat)) := CC.u (Or.inr (Or.inr (by decide)))
  unfold D_X2_readNumber D_X2_readNumber_19 D_X2_readNumber_105 D_X2_readNumber_117 D_X2_readNumber_123
  by_cases q : isDg B L (sk B L a) = true
  · have hv : 0 ≤ cv B L (sk B L a) ∧ cv B L (sk B L a) ≤ 1000009 := by have := nvR_v (B := B) (L := L) (i := sk B L a); unfold nvR at this; omega
    have hd := c_dig (n := n) (c := c) (W := W) (p := p) hL (L - sk B L a) (sk B L a) mFU 0 _ (by omega) (by unfold mFU; omega) hm (by decide)
    rw [u2_u2] at hd
    have hx := h.mv (de_le (B := B) hl)
    have c2 : CC I (u2 I 111 5 (de B L (sk B L a) : Nat)) := CC.u (Or.inr (Or.inr (by decide)))
    have pre : ∀ {R : Option (Int × mS)}, (if cv B L (sk B L a) < lo then ((tgO (st true n c (u2 I 111 5 (de B L (sk B L a) : Nat)) W p) 111 2).bind fun _ => (D_X2_fail 111 2 (sk B L a : Nat) (st true n c (u2 I 111 5 (de B L (sk B L a) : Nat)) W p)).bind fun r1 => some (cv B L (sk B L a), r1)) else if cv B L (sk B L a) ≤ hi then some (cv B L (sk B L a), st true n c (u2 I 111 5 (de B L (sk B L a) : Nat)) W p) else ((tgO (st true n c (u2 I 111 5 (de B L (sk B L a) : Nat)) W p) 111 2).bind fun _ => (D_X2_fail 111 2 (sk B L a : Nat) (st true n c (u2 I 111 5 (de B L (sk B L a) : Nat)) W p)).bind fun r1 => some (cv B L (sk B L a), r1))) = R → ((tgO (st true n c I W p) 111 2).bind fun _ => (D_X2_peek 111 (st true n c I W p)).bind fun r1 => (D_X2_isDigit r1.1 r1.2).bind fun r2 => if r2 ≠ 0 then ((gI r1.2 111 2 5).bind fun v1 => (D_X2_readNumber_27 mFU 111 0 r1.2).bind fun r2 => if r2.1 < lo then ((tgO r2.2 111 2).bind fun _ => (D_X2_fail 111 2 v1 r2.2).bind fun r1 => some (r2.1, r1)) else if r2.1 ≤ hi then some (r2.1, r2.2) else ((tgO r2.2 111 2).bind fun _ => (D_X2_fail 111 2 v1 r2.2).bind fun r1 => some (r2.1, r1))) else ((gI r1.2 111 2 5).bind fun v3 => (tgO r1.2 111 2).bind fun _ => (D_X2_fail 111 1 v3 r1.2).bind fun r4 => (gI r4 111 2 5).bind fun v1 => (D_X2_readNumber_27 mFU 111 0 r4).bind fun r2 => if r2.1 < lo then ((tgO r2.2 111 2).bind fun _ => (D_X2_fail 111 2 v1 r2.2).bind fun r1 => some (r2.1, r1)) else if r2.1 ≤ hi then some (r2.1, r2.2) else ((tgO r2.2 111 2).bind fun _ => (D_X2_fail 111 2 v1 r2.2).bind fun r1 => some (r2.1, r1)))) = R := by
      intro R hR
      refine bdk y2T (bdk (c_peek hL h) (bdk c_isDigit ?_))
      rw [pk_dg, q]
      show (if (1 : Int) ≠ 0 then _ else _) = _
      rw [if_pos (by decide)]
      refine bdk y2I ?_
      rw [hm.2.2.2.1]
      exact bdk hd hR
    by_cases q1 : cv B L (sk B L a) < lo
    · refine ⟨cv B L (sk B L a), cfl (u2 I 111 5 (de B L (sk B L a) : Nat)) 2 (sk B L a : Nat), pre ?_, c2.t CC.fl, ⟨by omega, hv.2⟩, Or.inr ⟨fun w => by have := w.2.1; omega, ?_⟩⟩
      · rw [if_pos q1]
        exact bdk y2T (bdk (c_fail hx.2.2.1) rfl)
      · have : numK B L (sk B L a) = 2 := if_pos q
        rw [this]
        exact hx.fl (by decide)
    · by_cases q2 : cv B L (sk B L a) ≤ hi
      · refine ⟨cv B L (sk B L a), u2 I 111 5 (de B L (sk B L a) : Nat), pre ?_, c2, ⟨by omega, hv.2⟩, Or.inl ⟨⟨q, by omega, q2⟩, rfl, hx⟩⟩
        rw [if_neg q1, if_pos q2]
      · refine ⟨cv B L (sk B L a), cfl (u2 I 111 5 (de B L (sk B L a) : Nat)) 2 (sk B L a : Nat), pre ?_, c2.t CC.fl, ⟨by omega, hv.2⟩, Or.inr ⟨fun w => q2 w.2.2, ?_⟩⟩
        · rw [if_neg q1, if_neg q2]
          exact bdk y2T (bdk (c_fail hx.2.2.1) rfl)
        · have : numK B L (sk B L a) = 2 := if_pos q
          rw [this]
          exact hx.fl (by decide)
  · have qf : isDg B L (sk B L a) = false := by
      cases z : isDg B L (sk B L a)
      · rfl
      · exact absurd z q
    have hf := hm.fl (k := 1) (pl := (sk B L a : Nat)) (by decide)
    have hk : numK B L (sk B L a) = 1 := if_neg q
    refine ⟨0, _, ?_, c1.t CC.fl, by decide, Or.inr ⟨fun w => q w.1, by rw [hk]; exact hf⟩⟩
    refine bdk y2T (bdk (c_peek hL h) (bdk c_isDigit ?_))
    rw [pk_dg, qf]
    show (if (0 : Int) ≠ 0 then _ else _) = _
    rw [if_neg (by decide)]
    refine bdk y2I (bdk y2T ?_)
    rw [hm.2.2.2.1]
    refine bdk (c_fail hm.2.2.1) ?_
    refine bdk y2I ?_
    have e27 : D_X2_readNumber_27 mFU 111 0 (st true n c (cfl (u2 I 111 5 (sk B L a : Nat)) 1 (sk B L a : Nat)) W p) = some (0, st true n c (cfl (u2 I 111 5 (sk B L a : Nat)) 1 (sk B L a : Nat)) W p) := by
      refine bdk y2I ?_
      rw [if_pos hf.nz]
    refine bdk e27 ?_
    show (if (0 : Int) < lo then _ else _) = _
    by_cases q1 : (0 : Int) < lo
    · rw [if_pos q1]
      exact bdk y2T (bdk (c_failF hf.nz) rfl)
    · rw [if_neg q1]
      by_cases q2 : (0 : Int) ≤ hi
      · rw [if_pos q2]
      · rw [if_neg q2]
        exact bdk y2T (bdk (c_failF hf.nz) rfl)
theorem c_numF {lo hi : Int} (hL : L ≤ 500) (h : CF B L k pl I) : D_X2_readNumber 111 lo hi (st true n c I W p) = some (0, st true n c I W p) := by
  obtain ⟨v, ev⟩ := c_peekF (n := n) (c := c) (W := W) (p := p) hL h
  have e27 : D_X2_readNumber_27 mFU 111 0 (st true n c I W p) = some (0, st true n c I W p) := by
    refine bdk y2I ?_
    rw [if_pos h.nz]
  have e19 : D_X2_readNumber_19 111 lo hi (st true n c I W p) = some (0, st true n c I W p) := by
    unfold D_X2_readNumber_19 D_X2_readNumber_105 D_X2_readNumber_117 D_X2_readNumber_123
    refine bdk y2I (bdk e27 ?_)
    show (if (0 : Int) < lo then _ else _) = _
    by_cases q1 : (0 : Int) < lo
    · rw [if_pos q1]
      exact bdk y2T (bdk (c_failF h.nz) rfl)
    · rw [if_neg q1]
      by_cases q2 : (0 : Int) ≤ hi
      · rw [if_pos q2]
      · rw [if_neg q2]
        exact bdk y2T (bdk (c_failF h.nz) rfl)
  unfold D_X2_readNumber
  refine bdk y2T (bdk ev (bdk c_isDigit ?_))
  by_cases q : bI (decide (48 ≤ v ∧ v ≤ 57)) ≠ 0
  · rw [if_pos q]; exact e19
  · rw [if_neg q]
    exact bdk y2I (bdk y2T (bdk (c_failF h.nz) e19))
theorem c_let (hL : L ≤ 500) : ∀ (d i f : Nat) (I : Nat → Nat → Int), i + d = L → d < f → CX B L i I → D_X2_readWord_27 f 111 (st true n c I W p) = some (st true n c (u2 I 111 5 (we B L i : Nat)) W p) := by
  intro d
  induction d with
  | zero =>
    intro i f I hi hf h
    obtain ⟨f, rfl⟩ : ∃ g, f = g + 1 := ⟨f - 1, by omega⟩
    obtain ⟨h1, h2, h3, h4, h5⟩ := h
    refine bdk y2I ?_
    rw [h3, if_neg (by decide)]
    refine bdk y2I (bdk y2I ?_)
    have e : we B L i = i := av_end (by omega)
    rw [h4, h2, if_pos (by omega), e, u2_same h4]
  | succ d ih =>
    intro i f I hi hf h
    obtain ⟨f, rfl⟩ : ∃ g, f = g + 1 := ⟨f - 1, by omega⟩
    have hx := h
    obtain ⟨h1, h2, h3, h4, h5⟩ := h
    refine bdk y2I ?_
    rw [h3, if_neg (by decide)]
    refine bdk y2I (bdk y2I ?_)
    rw [h4, h2, if_neg (by omega)]
    refine bdk y2R3 (bdk y2I ?_)
    rw [h4]
    refine bdk (z8L109 (by omega) (by omega)) (bdk c_isLetter ?_)
    rw [toN, h1 i (by omega)]
    have ed : decide (97 ≤ B i ∧ B i ≤ 122) = isLt B L i := by rw [← pk_lt2, pk_at (by omega)]
    rw [ed]
    by_cases q : isLt B L i = true
    · have e : we B L i = we B L (i + 1) := av_s isLt_L q
      rw [q]
      show (if (1 : Int) = 0 then _ else _) = _
      rw [if_neg (by decide)]
      refine bdk y2I ?_
      rw [h4, mw_n (by omega)]
      refine bdk y2P ?_
      rw [ih (i + 1) f _ (by omega) (by omega) (hx.mv (a' := i + 1) (by omega)), u2_u2, e]
    · have qf : isLt B L i = false := by
        cases z : isLt B L i
        · rfl
        · exact absurd z q
      have e : we B L i = i := av_0 qf
      rw [qf, e, u2_same h4]
      show (if (0 : Int) = 0 then _ else _) = _
      rw [if_pos rfl]
theorem CX.wd (h : CX B L a I) {j : Nat} {x : Int} (hj : j = 6 ∨ j = 7) : CX B L a (u2 I 111 j x) := by
  obtain ⟨h1, h2, h3, h4, h5⟩ := h
  exact ⟨fun k hk => by rw [u2_ne _ _ (by omega)]; exact h1 k hk, by rw [u2_ne _ _ (by omega)]; exact h2, by rw [u2_ne _ _ (by omega)]; exact h3, by rw [u2_ne _ _ (by omega)]; exact h4, h5⟩
theorem CF.wd (h : CF B L k pl I) {j : Nat} {x : Int} (hj : j = 6 ∨ j = 7) : CF B L k pl (u2 I 111 j x) := by
  obtain ⟨h1, h2, ⟨h3, hk⟩, h4, a, h5, h6⟩ := h
  exact ⟨fun k hk => by rw [u2_ne _ _ (by omega)]; exact h1 k hk, by rw [u2_ne _ _ (by omega)]; exact h2, ⟨by rw [u2_ne _ _ (by omega)]; exact h3, hk⟩, by rw [u2_ne _ _ (by omega)]; exact h4, a, by rw [u2_ne _ _ (by omega)]; exact h5, h6⟩
theorem c_word (hL : L ≤ 500) (h : CX B L a I) : ∃ I', D_X2_readWord 111 (st true n c I W p) = some (st true n c I' W p) ∧ CC I I' ∧ I' 111 6 = (sk B L a : Nat) ∧ ((isLt B L (sk B L a) = true ∧ CX B L (we B L (sk B L a)) I' ∧ I' 111 7 = (we B L (sk B L a) : Nat)) ∨ (isLt B L (sk B L a) = false ∧ CF B L 1 (sk B L a : Nat) I' ∧ I' 111 7 = (sk B L a : Nat))) := by
  have hl := sk_le (B := B) h.2.2.2.2
  have hm := h.mv hl
  have c1 : CC I (u2 I 111 5 (sk B L a : Nat)) := CC.u (Or.inr (Or.inr (by decide)))
  unfold D_X2_readWord D_X2_readWord_19 D_X2_readWord_73
  cases q : isLt B L (sk B L a) with
  | true =>
    have hw := c_let (n := n) (c := c) (W := W) (p := p) hL (L - sk B L a) (sk B L a) mFU (u2 (u2 I 111 5 (sk B L a : Nat)) 111 6 (sk B L a : Nat)) (by omega) (by unfold mFU; omega) (hm.wd (Or.inl rfl))
    have hx := (hm.wd (j := 6) (x := (sk B L a : Nat)) (Or.inl rfl)).mv (we_le (B := B) hl)
    refine ⟨_, ?_, ?_, ?_, Or.inl ⟨rfl, hx.wd (j := 7) (x := (we B L (sk B L a) : Nat)) (Or.inr rfl), by rw [u2_eq]⟩⟩
    · refine bdk y2T (bdk (c_peek hL h) (bdk c_isLetter ?_))
      rw [pk_lt2, q]
      show (if (1 : Int) ≠ 0 then _ else _) = _
      rw [if_pos (by decide)]
      refine bdk y2I ?_
      rw [hm.2.2.2.1]
      refine bdk y2P (bdk hw (bdk y2I ?_))
      rw [u2_eq]
      exact bdk y2P rfl
    · exact ((c1.t (CC.u (Or.inr (Or.inr (by decide))))).t (CC.u (Or.inr (Or.inr (by decide))))).t (CC.u (Or.inr (Or.inr (by decide))))
    · rw [u2_ne _ _ (by omega), u2_ne _ _ (by omega), u2_eq]
  | false =>
    have hf := hm.fl (k := 1) (pl := (sk B L a : Nat)) (by decide)
    have e27 : D_X2_readWord_27 mFU 111 (st true n c (u2 (cfl (u2 I 111 5 (sk B L a : Nat)) 1 (sk B L a : Nat)) 111 6 (sk B L a : Nat)) W p) = some (st true n c (u2 (cfl (u2 I 111 5 (sk B L a : Nat)) 1 (sk B L a : Nat)) 111 6 (sk B L a : Nat)) W p) := by
      refine bdk y2I ?_
      rw [if_pos (hf.wd (Or.inl rfl)).nz]
    have e5 : cfl (u2 I 111 5 (sk B L a : Nat)) 1 (sk B L a : Nat) 111 5 = (sk B L a : Nat) := by unfold cfl; rw [u2_ne _ _ (by omega), u2_ne _ _ (by omega), u2_eq]
    refine ⟨_, ?_, ?_, ?_, Or.inr ⟨rfl, (hf.wd (j := 6) (x := (sk B L a : Nat)) (Or.inl rfl)).wd (j := 7) (x := (sk B L a : Nat)) (Or.inr rfl), by rw [u2_eq]⟩⟩
    · refine bdk y2T (bdk (c_peek hL h) (bdk c_isLetter ?_))
      rw [pk_lt2, q]
      show (if (0 : Int) ≠ 0 then _ else _) = _
      rw [if_neg (by decide)]
      refine bdk y2I (bdk y2T ?_)
      rw [hm.2.2.2.1]
      refine bdk (c_fail hm.2.2.1) (bdk y2I ?_)
      rw [e5]
      refine bdk y2P (bdk e27 (bdk y2I ?_))
      rw [u2_ne _ _ (by omega), e5]
      exact bdk y2P rfl
    · exact ((c1.t CC.fl).t (CC.u (Or.inr (Or.inr (by decide))))).t (CC.u (Or.inr (Or.inr (by decide))))
    · rw [u2_ne _ _ (by omega), u2_eq]
theorem c_wordF (hL : L ≤ 500) (h : CF B L k pl I) : ∃ (I' : Nat → Nat → Int) (b : Nat), D_X2_readWord 111 (st true n c I W p) = some (st true n c I' W p) ∧ CC I I' ∧ CF B L k pl I' ∧ I' 111 6 = (b : Nat) ∧ I' 111 7 = (b : Nat) ∧ b < 2000000 := by
  obtain ⟨v, ev⟩ := c_peekF (n := n) (c := c) (W := W) (p := p) hL h
  obtain ⟨-, -, -, -, a, h5, ha5⟩ := id h
  have e27 : D_X2_readWord_27 mFU 111 (st true n c (u2 I 111 6 (a : Nat)) W p) = some (st true n c (u2 I 111 6 (a : Nat)) W p) := by
    refine bdk y2I ?_
    rw [if_pos (h.wd (Or.inl rfl)).nz]
  have e19 : D_X2_readWord_19 111 (st true n c I W p) = some (st true n c (u2 (u2 I 111 6 (a : Nat)) 111 7 (a : Nat)) W p) := by
    unfold D_X2_readWord_19 D_X2_readWord_73
    refine bdk y2I ?_
    rw [h5]
    refine bdk y2P (bdk e27 (bdk y2I ?_))
    rw [u2_ne _ _ (by omega), h5]
    exact bdk y2P rfl
  refine ⟨_, a, ?_, (CC.u (Or.inr (Or.inr (by decide)))).t (CC.u (Or.inr (Or.inr (by decide)))), (h.wd (j := 6) (x := (a : Nat)) (Or.inl rfl)).wd (j := 7) (x := (a : Nat)) (Or.inr rfl), by rw [u2_ne _ _ (by omega), u2_eq], by rw [u2_eq], by omega⟩
  unfold D_X2_readWord
  refine bdk y2T (bdk ev (bdk c_isLetter ?_))
  by_cases q : bI (decide (97 ≤ v ∧ v ≤ 122)) ≠ 0
  · rw [if_pos q]; exact e19
  · rw [if_neg q]
    exact bdk y2I (bdk y2T (bdk (c_failF h.nz) e19))
theorem c_nm31 {j e m : Nat} (hL : L ≤ 500) (hT : ∀ k, k < L → I 109 k = B k) (h6 : I 111 6 = (j : Nat)) (h7 : I 111 7 = (e : Nat)) (he : e ≤ L) (hm : m ≤ 6) (hje : j + m ≤ e) (hmx : m = 6 ∨ j + m = e) (hl : ∀ t, t < m → 97 ≤ B (j + t) ∧ B (j + t) ≤ 122) : ∀ (d t f : Nat), t + d = m → d < f → D_X2_readName_31 f 111 (nv B j t) (t : Nat) (st true n c I W p) = some (nv B j m) := by
  intro d
  induction d with
  | zero =>
    intro t f ht hf
    obtain ⟨f, rfl⟩ : ∃ g, f = g + 1 := ⟨f - 1, by omega⟩
    have tm : t = m := by omega
    subst tm
    show (if (6 : Int) ≤ (t : Nat) then _ else _) = _
    by_cases q : t = 6
    · rw [if_pos (by omega)]
    · rw [if_neg (by omega)]
      refine bdk y2I (bdk y2I ?_)
      rw [h6, h7, mw_of (by omega) (by omega), if_pos (by omega)]
  | succ d ih =>
    intro t f ht hf
    obtain ⟨f, rfl⟩ : ∃ g, f = g + 1 := ⟨f - 1, by omega⟩
    have r := nv_6 (B := B) (j := j) (l := t) (by omega) (fun z hz => hl z (by omega))
    have r1 := nv_6 (B := B) (j := j) (l := t + 1) (by omega) (fun z hz => hl z (by omega))
    have hb := hl t (by omega)
    have e1 : nv B j (t + 1) = 27 * nv B j t + (B (j + t) - 96) := rfl
    show (if (6 : Int) ≤ (t : Nat) then _ else _) = _
    rw [if_neg (by omega)]
    refine bdk y2I (bdk y2I ?_)
    rw [h6, h7, mw_of (x := ((j : Nat) : Int) + (t : Nat)) (by omega) (by omega), if_neg (by omega)]
    refine bdk y2R3 (bdk y2I ?_)
    rw [h6, mw_of (x := ((j : Nat) : Int) + (t : Nat)) (by omega) (by omega)]
    refine bdk (z8L109 (by omega) (by omega)) ?_
    rw [show (((j : Nat) : Int) + (t : Nat)).toNat = j + t by omega, hT _ (by omega), mw_of (x := 27 * nv B j t) (by omega) (by omega), mw_of (x := 27 * nv B j t + B (j + t)) (by omega) (by omega), mw_of (x := 27 * nv B j t + B (j + t) - 97) (by omega) (by omega), mw_of (x := 27 * nv B j t + B (j + t) - 97 + 1) (by omega) (by omega), mw_n (by omega), show 27 * nv B j t + B (j + t) - 97 + 1 = nv B j (t + 1) by omega]
    exact ih (t + 1) f (by omega) (by omega)
/-- a name reads well -/
def nmOk (B : Nat → Int) (L j : Nat) : Prop := isLt B L j = true ∧ we B L j - j ≤ 6
theorem nmOk_l {j : Nat} (h : nmOk B L j) : ∀ t, t < we B L j - j → 97 ≤ B (j + t) ∧ B (j + t) ≤ 122 := fun t ht => (isLt_1 (we_yes (B := B) (L := L) (i := j) (j := j + t) (by omega) (by omega))).2
theorem c_name (hL : L ≤ 500) (h : CX B L a I) : ∃ v I', D_X2_readName 111 (st true n c I W p) = some (v, st true n c I' W p) ∧ CC I I' ∧ I' 111 6 = (sk B L a : Nat) ∧ ((nmOk B L (sk B L a) ∧ v = nv B (sk B L a) (we B L (sk B L a) - sk B L a) ∧ CX B L (we B L (sk B L a)) I') ∨ (¬ nmOk B L (sk B L a) ∧ CF B L 1 (sk B L a : Nat) I')) := by
  have hl := sk_le (B := B) h.2.2.2.2
  obtain ⟨I1, e1, c1, h6, hw⟩ := c_word (n := n) (c := c) (W := W) (p := p) hL h
  unfold D_X2_readName D_X2_readName_27 D_X2_readName_78
  rcases hw with ⟨q, hx, h7⟩ | ⟨q, hf, h7⟩
  · have hwl := we_le (B := B) (L := L) hl
    have hwg := we_ge (B := B) (L := L) (i := sk B L a)
    by_cases q6 : we B L (sk B L a) - sk B L a ≤ 6
    · have hok : nmOk B L (sk B L a) := ⟨q, q6⟩
      have h31 := c_nm31 (n := n) (c := c) (W := W) (p := p) (m := we B L (sk B L a) - sk B L a) hL hx.1 h6 h7 hwl q6 (by omega) (Or.inr (by omega)) (nmOk_l hok) (we B L (sk B L a) - sk B L a) 0 mFU (by omega) (by unfold mFU; omega)
      refine ⟨_, I1, ?_, c1, h6, Or.inl ⟨hok, rfl, hx⟩⟩
      refine bdk y2T (bdk e1 (bdk y2I (bdk y2I ?_)))
      rw [h6, h7, mw_of (by omega) (by omega), if_pos (by omega)]
      exact bdk h31 rfl
    · have hf := hx.fl (k := 1) (pl := (sk B L a : Nat)) (by decide)
      have h6' : cfl I1 1 (sk B L a : Nat) 111 6 = (sk B L a : Nat) := by unfold cfl; rw [u2_ne _ _ (by omega), u2_ne _ _ (by omega), h6]
      have h7' : cfl I1 1 (sk B L a : Nat) 111 7 = (we B L (sk B L a) : Nat) := by unfold cfl; rw [u2_ne _ _ (by omega), u2_ne _ _ (by omega), h7]
      have h31 := c_nm31 (n := n) (c := c) (W := W) (p := p) (m := 6) hL hf.1 h6' h7' hwl (by decide) (by omega) (Or.inl rfl) (fun t ht => (isLt_1 (we_yes (B := B) (L := L) (i := sk B L a) (j := sk B L a + t) (by omega) (by omega))).2) 6 0 mFU rfl (by decide)
      refine ⟨nv B (sk B L a) 6, cfl I1 1 (sk B L a : Nat), ?_, c1.t CC.fl, h6', Or.inr ⟨fun w => q6 w.2, hf⟩⟩
      refine bdk y2T (bdk e1 (bdk y2I (bdk y2I ?_)))
      rw [h6, h7, mw_of (by omega) (by omega), if_neg (by omega)]
      refine bdk y2I (bdk y2T ?_)
      rw [h6]
      exact bdk (c_fail hx.2.2.1) (bdk h31 rfl)
  · refine ⟨0, I1, ?_, c1, h6, Or.inr ⟨fun w => absurd w.1 (by rw [q]; decide), hf⟩⟩
    have h31 := c_nm31 (n := n) (c := c) (W := W) (p := p) (m := 0) hL hf.1 h6 h7 hl (by decide) (by omega) (Or.inr (by omega)) (fun t ht => absurd ht (Nat.not_lt_zero t)) 0 0 mFU rfl (by decide)
    refine bdk y2T (bdk e1 (bdk y2I (bdk y2I ?_)))
    rw [h6, h7, mw_of (by omega) (by omega), if_pos (by omega)]
    exact bdk h31 rfl
theorem c_nameF (hL : L ≤ 500) (h : CF B L k pl I) : ∃ I', D_X2_readName 111 (st true n c I W p) = some (0, st true n c I' W p) ∧ CC I I' ∧ CF B L k pl I' := by
  obtain ⟨I1, b, e1, c1, hf, h6, h7, hb⟩ := c_wordF (n := n) (c := c) (W := W) (p := p) hL h
  refine ⟨I1, ?_, c1, hf⟩
  unfold D_X2_readName D_X2_readName_27 D_X2_readName_78
  refine bdk y2T (bdk e1 (bdk y2I (bdk y2I ?_)))
  have e31 : D_X2_readName_31 mFU 111 0 0 (st true n c I1 W p) = some 0 := by
    show (if (6 : Int) ≤ 0 then _ else _) = _
    rw [if_neg (by decide)]
    refine bdk y2I (bdk y2I ?_)
    rw [h6, h7, mw_of (by omega) (by omega), if_pos (by omega)]
  rw [h6, h7, mw_of (by omega) (by omega), if_pos (by omega)]
  exact bdk e31 rfl
theorem c_numberOf {v : Int} {arr m z : Nat} (ha : HC true arr = (51, z)) (hm : m ≤ z) (hz : z ≤ 12) : D_X2_numberOf v arr (m : Nat) (st true n c I W p) = some (fiN (fun k => I arr k) v m 0) := by
  have L1 : ∀ (d k f : Nat), k + d = m → d < f → ∃ r : Unit ⊕ Int, D_X2_numberOf_2 f v arr (m : Nat) (k : Nat) (st true n c I W p) = some r ∧ r.elim (fun _ => -1) id = fiN (fun k => I arr k) v d k := by
    intro d
    induction d with
    | zero =>
      intro k f hk hf
      obtain ⟨f, rfl⟩ : ∃ g, f = g + 1 := ⟨f - 1, by omega⟩
      exact ⟨Sum.inl (), if_pos (by omega), rfl⟩
    | succ d ih =>
      intro k f hk hf
      obtain ⟨f, rfl⟩ : ∃ g, f = g + 1 := ⟨f - 1, by omega⟩
      have e0 : fiN (fun k => I arr k) v (d + 1) k = if I arr k = v then (k : Int) else fiN (fun k => I arr k) v d (k + 1) := rfl
      rw [e0]
      by_cases q : I arr k = v
      · refine ⟨Sum.inr (k : Int), ?_, by rw [if_pos q]; rfl⟩
        show (if ((m : Nat) : Int) ≤ (k : Nat) then _ else _) = _
        rw [if_neg (by omega)]
        refine bdk (s_lI ha (by omega) (by omega)) ?_
        rw [toN, if_neg (fun w => w q)]
      · obtain ⟨r, e1, e2⟩ := ih (k + 1) f (by omega) (by omega)
        refine ⟨r, ?_, by rw [if_neg q]; exact e2⟩
        show (if ((m : Nat) : Int) ≤ (k : Nat) then _ else _) = _
        rw [if_neg (by omega)]
        refine bdk (s_lI ha (by omega) (by omega)) ?_
        rw [toN, if_pos q, mw_n (by omega)]
        exact e1
  obtain ⟨r, e1, e2⟩ := L1 m 0 mFU (by omega) (by unfold mFU; omega)
  unfold D_X2_numberOf
  refine bdk e1 ?_
  rw [← e2]
  cases r <;> rfl
/-- whether a word is one of the language's -/
theorem c_wordIs {j e i : Nat} (hL : L ≤ 500) (hT : ∀ k, k < L → I 109 k = B k) (h6 : I 111 6 = (j : Nat)) (h7 : I 111 7 = (e : Nat)) (hje : j ≤ e) (he : e ≤ L) (hi : i < 12) : D_X2_wordIs 111 (2 + i) (st true n c I W p) = some (bI (wq B j e i)) := by
  have hlen : (mStr.getD i []).length ≤ 7 := (by decide : ∀ i, i < 12 → (mStr.getD i []).length ≤ 7) i hi
  have es : sLn (2 + i) = some (((mStr.getD i []).length : Nat) : Int) := by
    unfold sLn
    rw [if_pos (by omega), show 2 + i - 2 = i by omega]
  unfold D_X2_wordIs
  refine bdk es (bdk y2I (bdk y2I ?_))
  rw [h6, h7, mw_of (by omega) (by omega)]
  generalize hw : mStr.getD i [] = w at hlen es
  by_cases q : ((w.length : Nat) : Int) = (e : Nat) - (j : Nat)
  · rw [if_pos q]
    have L1 : ∀ (d t f : Nat), t + d = w.length → d < f → (∀ u, u < t → B (j + u) = w.getD u 0) → ((∀ u, u < w.length → B (j + u) = w.getD u 0) ∧ D_X2_wordIs_20 f 111 (2 + i) (t : Nat) (st true n c I W p) = some (Sum.inl ())) ∨ ((¬ ∀ u, u < w.length → B (j + u) = w.getD u 0) ∧ D_X2_wordIs_20 f 111 (2 + i) (t : Nat) (st true n c I W p) = some (Sum.inr 0)) := by
      intro d
      induction d with
      | zero =>
        intro t f ht hf hp
        obtain ⟨f, rfl⟩ : ∃ g, f = g + 1 := ⟨f - 1, by omega⟩
        refine Or.inl ⟨fun u hu => hp u (by omega), bdk es ?_⟩
        rw [if_pos (by omega)]
      | succ d ih =>
        intro t f ht hf hp
        obtain ⟨f, rfl⟩ : ∃ g, f = g + 1 := ⟨f - 1, by omega⟩
        have ec : sCh (2 + i) (t : Nat) = some (w.getD t 0) := by
          unfold sCh
          rw [show 2 + i - 2 = i by omega, hw, if_pos (by omega), toN]
        have pre : ∀ {R : Option (Unit ⊕ Int)}, (if B (j + t) = w.getD t 0 then D_X2_wordIs_20 f 111 (2 + i) ((t + 1 : Nat) : Int) (st true n c I W p) else (bO 0).bind fun v6 => some (Sum.inr v6)) = R → D_X2_wordIs_20 (f + 1) 111 (2 + i) (t : Nat) (st true n c I W p) = R := by
          intro R hR
          refine bdk es ?_
          rw [if_neg (by omega)]
          refine bdk y2R3 (bdk y2I ?_)
          rw [h6, mw_of (x := ((j : Nat) : Int) + (t : Nat)) (by omega) (by omega)]
          refine bdk (z8L109 (by omega) (by omega)) (bdk ec ?_)
          rw [show (((j : Nat) : Int) + (t : Nat)).toNat = j + t by omega, hT _ (by omega), mw_n (by omega)]
          exact hR
        by_cases z : B (j + t) = w.getD t 0
        · rcases ih (t + 1) f (by omega) (by omega) (fun u hu => by
            by_cases y : u = t
            · rw [y]; exact z
            · exact hp u (by omega)) with ⟨h1, h2⟩ | ⟨h1, h2⟩
          · exact Or.inl ⟨h1, pre (by rw [if_pos z]; exact h2)⟩
          · exact Or.inr ⟨h1, pre (by rw [if_pos z]; exact h2)⟩
        · exact Or.inr ⟨fun y => z (y t (by omega)), pre (by rw [if_neg z]; rfl)⟩
    rcases L1 w.length 0 mFU (by omega) (by unfold mFU; omega) (fun u hu => absurd hu (Nat.not_lt_zero u)) with ⟨h1, h2⟩ | ⟨h1, h2⟩
    · have : wq B j e i = true := decide_eq_true (by rw [hw]; exact seg_eq.2 ⟨by omega, h1⟩)
      rw [this]
      exact bdk h2 rfl
    · have : wq B j e i = false := decide_eq_false (fun y => h1 (by rw [hw] at y; exact (seg_eq.1 y).2))
      rw [this]
      exact bdk h2 rfl
  · rw [if_neg q]
    have : wq B j e i = false := decide_eq_false (fun y => q (by rw [hw] at y; have := (seg_eq.1 y).1; omega))
    rw [this]
    rfl
/-- which word it is; -1: none -/
def kwN (B : Nat → Int) (j e : Nat) : Nat → Nat → Int
  | 0, _ => -1
  | d + 1, i => if wq B j e i = true then (i : Int) else kwN B j e d (i + 1)
theorem c_keyword {j e : Nat} (hL : L ≤ 500) (hT : ∀ k, k < L → I 109 k = B k) (h6 : I 111 6 = (j : Nat)) (h7 : I 111 7 = (e : Nat)) (hje : j ≤ e) (he : e ≤ L) : D_X2_keyword 111 (st true n c I W p) = some (kwN B j e 12 0) := by
  have hk : ∀ i, i < 12 → D_X2_wordIs 111 (2 + i) (st true n c I W p) = some (bI (wq B j e i)) := fun i hi => c_wordIs hL hT h6 h7 hje he hi
  have e0 : ∀ d i, kwN B j e (d + 1) i = if wq B j e i = true then (i : Int) else kwN B j e d (i + 1) := fun _ _ => rfl
  have st1 : ∀ {β : Type} {x y : Option β} {i : Nat} (_ : i < 12) {R : Option β}, (if wq B j e i = true then y else x) = R → ((tgO (st true n c I W p) 111 2).bind fun _ => (D_X2_wordIs 111 (2 + i) (st true n c I W p)).bind fun r => if r = 0 then x else y) = R := by
    intro β x y i hi R hR
    refine bdk y2T (bdk (hk i hi) ?_)
    cases z : wq B j e i with
    | true =>
      rw [z, if_pos rfl] at hR
      show (if (1 : Int) = 0 then x else y) = R
      rw [if_neg (by decide)]
      exact hR
    | false =>
      rw [z, if_neg (by decide)] at hR
      show (if (0 : Int) = 0 then x else y) = R
      rw [if_pos rfl]
      exact hR
  unfold D_X2_keyword D_X2_keyword_141
  rw [e0]
  refine st1 (i := 0) (by decide) ?_
  by_cases q0 : wq B j e 0 = true
  · rw [if_pos q0, if_pos q0]; rfl
  rw [if_neg q0, if_neg q0, e0]
  refine st1 (i := 1) (by decide) ?_
  by_cases q1 : wq B j e (0 + 1) = true
  · rw [if_pos q1, if_pos q1]; rfl
  rw [if_neg q1, if_neg q1, e0]
  refine st1 (i := 2) (by decide) ?_
  by_cases q2 : wq B j e (0 + 1 + 1) = true
  · rw [if_pos q2, if_pos q2]; rfl
  rw [if_neg q2, if_neg q2, e0]
  refine st1 (i := 3) (by decide) ?_
  by_cases q3 : wq B j e (0 + 1 + 1 + 1) = true
  · rw [if_pos q3, if_pos q3]; rfl
  rw [if_neg q3, if_neg q3, e0]
  refine st1 (i := 4) (by decide) ?_
  by_cases q4 : wq B j e (0 + 1 + 1 + 1 + 1) = true
  · rw [if_pos q4, if_pos q4]; rfl
  rw [if_neg q4, if_neg q4, e0]
  refine st1 (i := 5) (by decide) ?_
  by_cases q5 : wq B j e (0 + 1 + 1 + 1 + 1 + 1) = true
  · rw [if_pos q5, if_pos q5]; rfl
  rw [if_neg q5, if_neg q5, e0]
  refine st1 (i := 6) (by decide) ?_
  by_cases q6 : wq B j e (0 + 1 + 1 + 1 + 1 + 1 + 1) = true
  · rw [if_pos q6, if_pos q6]; rfl
  rw [if_neg q6, if_neg q6, e0]
  refine st1 (i := 7) (by decide) ?_
  by_cases q7 : wq B j e (0 + 1 + 1 + 1 + 1 + 1 + 1 + 1) = true
  · rw [if_pos q7, if_pos q7]; rfl
  rw [if_neg q7, if_neg q7, e0]
  refine st1 (i := 8) (by decide) ?_
  by_cases q8 : wq B j e (0 + 1 + 1 + 1 + 1 + 1 + 1 + 1 + 1) = true
  · rw [if_pos q8, if_pos q8]; rfl
  rw [if_neg q8, if_neg q8, e0]
  refine st1 (i := 9) (by decide) ?_
  by_cases q9 : wq B j e (0 + 1 + 1 + 1 + 1 + 1 + 1 + 1 + 1 + 1) = true
  · rw [if_pos q9, if_pos q9]; rfl
  rw [if_neg q9, if_neg q9, e0]
  refine st1 (i := 10) (by decide) ?_
  by_cases q10 : wq B j e (0 + 1 + 1 + 1 + 1 + 1 + 1 + 1 + 1 + 1 + 1) = true
  · rw [if_pos q10, if_pos q10]; rfl
  rw [if_neg q10, if_neg q10, e0]
  refine st1 (i := 11) (by decide) ?_
  by_cases q11 : wq B j e (0 + 1 + 1 + 1 + 1 + 1 + 1 + 1 + 1 + 1 + 1 + 1) = true
  · rw [if_pos q11, if_pos q11]; rfl
  rw [if_neg q11, if_neg q11]
  rfl
end CNU
