/-! THE PURE PART: sets of years, as bits of words and as told of them -/
def wb (f : Nat → BitVec 64) (y : Nat) : Bool := (f (y / 64)).getLsbD (y % 64)
/-- the next one in a row from a place on; the end if there is none -/
def nxt (p : Nat → Bool) : Nat → Nat → Nat
  | 0, i => i
  | d + 1, i => if p i = true then i else nxt p d (i + 1)
def nx (p : Nat → Bool) (i : Nat) : Nat := nxt p (1000 - i) i
theorem nxt_spec (p : Nat → Bool) : ∀ d i, i ≤ nxt p d i ∧ nxt p d i ≤ i + d ∧ (∀ j, i ≤ j → j < nxt p d i → p j = false) ∧ (nxt p d i < i + d → p (nxt p d i) = true) := by
  intro d
  induction d with
  | zero => intro i; exact ⟨Nat.le_refl i, Nat.le_refl i, fun j h1 h2 => absurd h2 (by show ¬ j < i; omega), fun h => absurd h (by show ¬ i < i; omega)⟩
  | succ d ih =>
    intro i
    have e0 : nxt p (d + 1) i = if p i = true then i else nxt p d (i + 1) := rfl
    rw [e0]
    by_cases q : p i = true
    · rw [if_pos q]
      exact ⟨Nat.le_refl i, by omega, fun j h1 h2 => by omega, fun _ => q⟩
    · rw [if_neg q]
      obtain ⟨h1, h2, h3, h4⟩ := ih (i + 1)
      refine ⟨by omega, by omega, fun j h5 h6 => ?_, fun h => h4 (by omega)⟩
      by_cases e : j = i
      · subst e
        cases r : p j
        · rfl
        · exact absurd r q
      · exact h3 j (by omega) h6
theorem nx_ge (p : Nat → Bool) (i : Nat) : i ≤ nx p i := (nxt_spec p _ i).1
theorem nx_le {p : Nat → Bool} {i : Nat} (h : i ≤ 1000) : nx p i ≤ 1000 := by have := (nxt_spec p (1000 - i) i).2.1; unfold nx; omega
theorem nx_no {p : Nat → Bool} {i j : Nat} (h1 : i ≤ j) (h2 : j < nx p i) : p j = false := (nxt_spec p (1000 - i) i).2.2.1 j h1 h2
theorem nx_yes {p : Nat → Bool} {i : Nat} (h : nx p i < 1000) : p (nx p i) = true := (nxt_spec p (1000 - i) i).2.2.2 (by have := nx_ge p i; unfold nx at *; omega)
theorem nx_is {p : Nat → Bool} {i r : Nat} (h0 : i ≤ r) (h1 : r ≤ 1000) (h2 : ∀ j, i ≤ j → j < r → p j = false) (h3 : r < 1000 → p r = true) : nx p i = r := by
  have g1 := nx_ge p i
  have g2 := nx_le (p := p) (i := i) (by omega)
  rcases Nat.lt_trichotomy (nx p i) r with h | h | h
  · have a := h2 _ g1 h
    rw [nx_yes (p := p) (i := i) (by omega)] at a
    cases a
  · exact h
  · have a := h3 (by omega)
    rw [nx_no h0 h] at a
    cases a
theorem nx_cong {p q : Nat → Bool} {i : Nat} (hi : i ≤ 1000) (h : ∀ j, j < 1000 → p j = q j) : nx p i = nx q i :=
  nx_is (nx_ge q i) (nx_le hi) (fun j h1 h2 => by rw [h j (by have := nx_le (p := q) hi; omega)]; exact nx_no h1 h2) (fun h1 => by rw [h _ h1]; exact nx_yes h1)
theorem nx_in {p : Nat → Bool} {i : Nat} (hi : i < 1000) (h : p i = true) : nx p i = i := nx_is (Nat.le_refl i) (by omega) (fun j h1 h2 => by omega) (fun _ => h)
theorem nx_out {p : Nat → Bool} {i : Nat} (h : p i = false) (hi : i < 1000) : nx p i = nx p (i + 1) :=
  nx_is (by have := nx_ge p (i + 1); omega) (nx_le (by omega)) (fun j h1 h2 => by
    by_cases e : j = i
    · rw [e]; exact h
    · exact nx_no (by omega) h2) (fun h1 => nx_yes h1)
/-- bits of words made anew -/
theorem wb_ext {f f' : Nat → BitVec 64} {y : Nat} (h : f (y / 64) = f' (y / 64)) : wb f y = wb f' y := by unfold wb; rw [h]
theorem wb_or1 {f f' : Nat → BitVec 64} {y z : Nat} (h1 : f' (y / 64) = f (y / 64) ||| (1#64 <<< (y % 64))) (h2 : ∀ k, k ≠ y / 64 → f' k = f k) : wb f' z = (wb f z || decide (z = y)) := by
  unfold wb
  by_cases e : z / 64 = y / 64
  · rw [e, h1, BitVec.getLsbD_or, BitVec.getLsbD_shiftLeft, BitVec.getLsbD_one]
    congr 1
    have hz : z % 64 < 64 := Nat.mod_lt _ (by decide)
    by_cases q : z = y
    · subst q
      simp [hz]
    · have : z % 64 ≠ y % 64 := by omega
      simp only [hz, q, decide_true, decide_false, Bool.true_and]
      by_cases r : z % 64 < y % 64
      · simp [r]
      · have : z % 64 - y % 64 ≠ 0 := by omega
        simp [this]
  · rw [h2 _ e]
    have : z ≠ y := fun q => e (by rw [q])
    simp [this]
section YS
variable {g : Bool} {n : Nat} {c : Nat × Nat × Nat × Nat} {I : Nat → Nat → Int} {W : Nat → Nat → BitVec 64} {p : Nat → Nat} {a : Nat}
theorem clear_k (h : HC g a = (52, 16)) : D_X7_clear a (st g n c I W p) = some (st g n c I (fun b k => if b = a ∧ k < 16 then 0 else W b k) p) := by
  have L : ∀ d i f, i + d = 16 → d < f → D_X7_clear_2 f a (i : Nat) (st g n c I (fun b k => if b = a ∧ k < i then 0 else W b k) p) = some (st g n c I (fun b k => if b = a ∧ k < 16 then 0 else W b k) p) := by
    intro d
    induction d with
    | zero =>
      intro i f hi hf
      obtain ⟨f, rfl⟩ : ∃ g, f = g + 1 := ⟨f - 1, by omega⟩
      have e : i = 16 := by omega
      subst e
      exact if_pos (by omega)
    | succ d ih =>
      intro i f hi hf
      obtain ⟨f, rfl⟩ : ∃ g, f = g + 1 := ⟨f - 1, by omega⟩
      show (if (16 : Int) ≤ (i : Nat) then _ else _) = _
      rw [if_neg (by omega)]
      refine bdk (s_sL h (by omega) (by omega)) ?_
      rw [mw_n (by omega)]
      refine Eq.trans (congrArg (fun W' => D_X7_clear_2 f a ((i + 1 : Nat) : Int) (st g n c I W' p)) ?_) (ih (i + 1) f (by omega) (by omega))
      funext b k
      simp only [u2]
      repeat' (first | omega | rfl | split)
  unfold D_X7_clear
  refine bdk ?_ rfl
  refine Eq.trans (congrArg (fun W' => D_X7_clear_2 mFU a ((0 : Nat) : Int) (st g n c I W' p)) ?_) (L 16 0 mFU rfl (by decide))
  funext b k
  rw [if_neg (by omega)]
theorem wsel {y : Nat} (h : y < 2147483648) : mshr (y : Int) 6 = ((y / 64 : Nat) : Int) := by
  rw [mshr_6 ⟨by omega, by omega⟩]
  omega
theorem put_k (h : HC g a = (52, 16)) {y : Nat} (hy : y < 1000) : ∃ W', D_X7_put a (y : Int) (st g n c I W p) = some (st g n c I W' p) ∧ (∀ b, b ≠ a → W' b = W b) ∧ ∀ z, wb (W' a) z = (wb (W a) z || decide (z = y)) := by
  refine ⟨u2 W a (y / 64) (W a (y / 64) ||| (1#64 <<< (y % 64))), ?_, ?_, ?_⟩
  · unfold D_X7_put
    rw [wsel (by omega)]
    refine bdk (s_lL h (by omega) (by omega)) (bdk (s_sL h (by omega) (by omega)) ?_)
    rw [mand_63 (by omega), mlshl_k (by omega)]
    rfl
  · intro b hb
    funext k
    exact if_neg (fun q => hb q.1)
  · intro z
    exact wb_or1 (if_pos ⟨rfl, rfl⟩) (fun k hk => if_neg (fun q => hk q.2))
theorem has_k (h : HC g a = (52, 16)) {y : Nat} (hy : y < 1024) : D_X7_has a (y : Int) (st g n c I W p) = some (if wb (W a) y = true then 1 else 0) := by
  unfold D_X7_has
  rw [wsel (by omega)]
  refine bdk (s_lL h (by omega) (by omega)) ?_
  have e : ((mlushr (W a ((y / 64 : Nat) : Int).toNat) (mand (y : Int) 63)) &&& (1 : BitVec 64)) = 0 ↔ wb (W a) y = false := by
    rw [mand_63 (by omega), mlushr_k (by omega)]
    unfold wb
    rw [show ((y / 64 : Nat) : Int).toNat = y / 64 by omega]
    constructor
    · intro h1
      have := congrArg (fun w : BitVec 64 => w.getLsbD 0) h1
      simpa using this
    · intro h1
      apply BitVec.eq_of_getLsbD_eq
      intro j hj
      rw [show (1 : BitVec 64) = 1#64 from rfl, BitVec.getLsbD_and, BitVec.getLsbD_ushiftRight, BitVec.getLsbD_one]
      by_cases q : j = 0
      · subst q
        simp [h1]
      · simp [q]
  by_cases q : wb (W a) y = true
  · rw [if_neg (fun r => by have := e.1 (mlcmp_0.1 r); rw [q] at this; cases this), if_pos q]
    rfl
  · rw [if_pos (mlcmp_0.2 (e.2 (by cases r : wb (W a) y; rfl; exact absurd r q))), if_neg q]
    rfl
theorem count_k (h : HC g a = (52, 16)) : D_X7_count a (st g n c I W p) = some ((ct (wb (W a)) 1024 : Nat) : Int) := by
  have L : ∀ d i f, i + d = 16 → d < f → D_X7_count_4 f a ((ct (wb (W a)) (64 * i) : Nat) : Int) (i : Nat) (st g n c I W p) = some ((ct (wb (W a)) 1024 : Nat) : Int) := by
    intro d
    induction d with
    | zero =>
      intro i f hi hf
      obtain ⟨f, rfl⟩ : ∃ g, f = g + 1 := ⟨f - 1, by omega⟩
      have e : i = 16 := by omega
      subst e
      exact if_pos (by omega)
    | succ d ih =>
      intro i f hi hf
      obtain ⟨f, rfl⟩ : ∃ g, f = g + 1 := ⟨f - 1, by omega⟩
      show (if (16 : Int) ≤ (i : Nat) then _ else _) = _
      rw [if_neg (by omega)]
      refine bdk (s_lL h (by omega) (by omega)) (bdk (bitCount_k _ _) ?_)
      have e1 : ct (wb (W a)) (64 * (i + 1)) = ct (wb (W a)) (64 * i) + ct (fun j => (W a ((i : Nat) : Int).toNat).getLsbD j) 64 := by
        rw [Nat.mul_succ, ct_add]
        congr 1
        refine ct_cong fun k hk => ?_
        unfold wb
        rw [show (64 * i + k) / 64 = i by omega, show (64 * i + k) % 64 = k by omega]
        rfl
      have b1 := ct_le (wb (W a)) (64 * i)
      have b2 := ct_le (fun j => (W a ((i : Nat) : Int).toNat).getLsbD j) 64
      rw [mw_n (by omega), mw_of (by omega) (by omega)]
      refine Eq.trans (congrArg (fun v => D_X7_count_4 f a v ((i + 1 : Nat) : Int) (st g n c I W p)) ?_) (ih (i + 1) f (by omega) (by omega))
      rw [e1]
      omega
  unfold D_X7_count
  exact bdk (L 16 0 mFU rfl (by decide)) rfl
end YS
/-- nothing beyond the last year -/
def clean (f : Nat → BitVec 64) : Prop := ∀ y, 1000 ≤ y → y < 1024 → wb f y = false
theorem clean_ct {f : Nat → BitVec 64} (h : clean f) : ct (wb f) 1024 = ct (wb f) 1000 := by
  have e : ct (fun k => wb f (1000 + k)) 24 = 0 := ct_0.2 (fun k hk => h _ (by omega) (by omega))
  rw [show 1024 = 1000 + 24 from rfl, ct_add, e, Nat.add_zero]
