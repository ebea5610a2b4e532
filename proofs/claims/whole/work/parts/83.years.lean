/-! THE PURE PART: the years of an age, on both sides -/
section YE
variable {g : Bool} {n : Nat} {c : Nat × Nat × Nat × Nat} {I : Nat → Nat → Int} {W : Nat → Nat → BitVec 64} {p : Nat → Nat} {T : Td}
/-- how many years of an age there are, the first and the last -/
def yrs (T : Td) (a : Int) : Nat → Nat → Int × Int × Int → Int × Int × Int
  | 0, _, r => r
  | d + 1, y, r => yrs T a d (y + 1) (if ageS T (y : Int) = a then (r.1 + 1, if r.2.1 = -1 then (y : Int) else r.2.1, (y : Int)) else r)
def yrsW (T : Td) (a w : Int) : Int := let r := yrs T a 1000 0 (0, -1, -1); if w = 0 then r.1 else if w = 1 then r.2.1 else r.2.2
theorem mw_p {x : Int} (h0 : 0 ≤ x) (h1 : x < 2000000) : mw (x + 1) = x + 1 := mw_of (by omega) (by omega)
theorem x8_years40 {a : Int} (hA : AgesC T I) : ∀ (d y f : Nat) (k fi la : Int), y + d = 1000 → d < f → 0 ≤ k → k ≤ (y : Int) → D_X8_years_40 f 32 a k fi la (y : Nat) (st g n c I W p) = some (yrs T a d y (k, fi, la)) := by
  intro d
  induction d with
  | zero =>
    intro y f k fi la hy hf h0 h1
    obtain ⟨f, rfl⟩ : ∃ g, f = g + 1 := ⟨f - 1, by omega⟩
    exact if_pos (by omega)
  | succ d ih =>
    intro y f k fi la hy hf h0 h1
    obtain ⟨f, rfl⟩ : ∃ g, f = g + 1 := ⟨f - 1, by omega⟩
    have e : yrs T a (d + 1) y (k, fi, la) = yrs T a d (y + 1) (if ageS T (y : Int) = a then (k + 1, if fi = -1 then (y : Int) else fi, (y : Int)) else (k, fi, la)) := rfl
    rw [e]
    show (if (1000 : Int) ≤ (y : Nat) then _ else _) = _
    rw [if_neg (by omega)]
    refine bdk z8R0 (bdk (z8L33 (by omega) (by omega)) ?_)
    rw [toN, hA y (by omega)]
    unfold D_X8_years_75 D_X8_years_81
    rw [mw_n (by omega), mw_p h0 (by omega)]
    by_cases q : ageS T (y : Int) = a
    · rw [if_pos q, if_neg (fun w => w q)]
      by_cases q2 : fi = -1
      · rw [if_neg (fun w => w q2), if_pos q2]
        exact ih (y + 1) f _ _ _ (by omega) (by omega) (by omega) (by omega)
      · rw [if_pos q2, if_neg q2]
        exact ih (y + 1) f _ _ _ (by omega) (by omega) (by omega) (by omega)
    · rw [if_neg q, if_pos q]
      exact ih (y + 1) f _ _ _ (by omega) (by omega) (by omega) (by omega)
theorem x9_years52 {a : Int} (hn : WFn T) (hk : WFk T) (hT : RefT T I) : ∀ (d y f : Nat) (k fi la : Int), y + d = 1000 → d < f → 0 ≤ k → k ≤ (y : Int) → (k = 0 ↔ fi = -1) → D_X9_years_52 f 1170 a k fi la (y : Nat) (st true n c I W p) = some (yrs T a d y (k, fi, la)) := by
  intro d
  induction d with
  | zero =>
    intro y f k fi la hy hf h0 h1 h2
    obtain ⟨f, rfl⟩ : ∃ g, f = g + 1 := ⟨f - 1, by omega⟩
    exact if_pos (by omega)
  | succ d ih =>
    intro y f k fi la hy hf h0 h1 h2
    obtain ⟨f, rfl⟩ : ∃ g, f = g + 1 := ⟨f - 1, by omega⟩
    have e : yrs T a (d + 1) y (k, fi, la) = yrs T a d (y + 1) (if ageS T (y : Int) = a then (k + 1, if fi = -1 then (y : Int) else fi, (y : Int)) else (k, fi, la)) := rfl
    rw [e]
    show (if (1000 : Int) ≤ (y : Nat) then _ else _) = _
    rw [if_neg (by omega)]
    refine bdk z9T (bdk (x9_ageOf hn hk hT (by omega)) ?_)
    unfold D_X9_years_84 D_X9_years_93
    rw [mw_n (by omega), mw_p h0 (by omega)]
    by_cases q : ageS T (y : Int) = a
    · rw [if_pos q, if_pos q]
      by_cases q2 : fi = -1
      · rw [if_neg (fun w => w (h2.2 q2)), if_pos q2]
        exact ih (y + 1) f _ _ _ (by omega) (by omega) (by omega) (by omega) (by omega)
      · rw [if_pos (fun w => q2 (h2.1 w)), if_neg q2]
        exact ih (y + 1) f _ _ _ (by omega) (by omega) (by omega) (by omega) (by omega)
    · rw [if_neg q, if_neg q]
      exact ih (y + 1) f _ _ _ (by omega) (by omega) (by omega) (by omega) h2
/-- the desk's call -/
theorem x8_years {a w : Int} (hA : AgesC T I) : D_X8_years 32 a w (st g n c I W p) = if (0 ≤ a ∧ a ≤ 9999) ∧ 0 ≤ w ∧ w ≤ 2 then some (Sum.inl (yrsW T a w), st g n c I W p) else some (Sum.inr 1, st g n (xc c) (rI I 1) W p) := by
  have no : D_X8_years_25 32 a w 32 (st g n c I W p) = some (Sum.inr 1, st g n (xc c) (rI I 1) W p) := by
    unfold D_X8_years_25 D_X8_years_26
    exact bdk z8T (bdk need0 rfl)
  unfold D_X8_years
  by_cases q1 : a < 0
  · rw [if_pos q1, if_neg (by omega)]; exact no
  rw [if_neg q1]
  by_cases q2 : 9999 < a
  · rw [if_pos q2, if_neg (by omega)]; exact no
  rw [if_neg q2]
  by_cases q3 : w < 0
  · rw [if_pos q3, if_neg (by omega)]; exact no
  rw [if_neg q3]
  by_cases q4 : 2 < w
  · rw [if_pos q4, if_neg (by omega)]; exact no
  rw [if_neg q4, if_pos (by omega)]
  unfold D_X8_years_26
  refine bdk z8T (bdk need1 (bdk (x8_years40 hA 1000 0 mFU 0 (-1) (-1) rfl (by decide) (by decide) (by decide)) ?_))
  unfold D_X8_years_107 yrsW
  by_cases c0 : w = 0
  · rw [if_neg (fun v => v c0)]
    show _ = some (Sum.inl (if w = 0 then _ else _), _)
    rw [if_pos c0]
  · rw [if_pos c0]
    show _ = some (Sum.inl (if w = 0 then _ else _), _)
    rw [if_neg c0]
    by_cases c1 : w = 1
    · rw [if_neg (fun v => v c1), if_pos c1]
    · rw [if_pos c1, if_neg c1]
/-- the reference's -/
theorem x9_years {a w : Int} (hn : WFn T) (hk : WFk T) (hT : RefT T I) : D_X9_years 1170 a w (st true n c I W p) = if (0 ≤ a ∧ a ≤ 9999) ∧ 0 ≤ w ∧ w ≤ 2 then some (yrsW T a w, st true n c (u2 I 1170 0 0) W p) else some (0, st true n c (rJ (u2 I 1170 0 0) 1 1) W p) := by
  have z : u2 I 1170 0 0 1170 0 = 0 := by rw [u2_def, if_pos ⟨rfl, rfl⟩]
  have hT' : RefT T (u2 I 1170 0 0) := hT.fr (P := fun b k => b = 1170 ∧ k = 0) (fun b k q => by rw [u2_def, if_neg q]) (fun b k q => by omega)
  have no : D_X9_years_30 1170 a w 1170 (st true n c (u2 I 1170 0 0) W p) = some (0, st true n c (rJ (u2 I 1170 0 0) 1 1) W p) := by
    unfold D_X9_years_30 D_X9_years_31
    exact bdk z9T (bdk (fine0 (kind := 1) (by decide) (by decide) z) rfl)
  unfold D_X9_years
  refine bdk z9P (bdk within_k ?_)
  by_cases q1 : 0 ≤ a ∧ a ≤ 9999
  · rw [if_pos q1, if_neg (by decide)]
    refine bdk within_k ?_
    by_cases q2 : 0 ≤ w ∧ w ≤ 2
    · rw [if_pos q2, if_neg (by decide), if_pos ⟨q1, q2⟩]
      unfold D_X9_years_31
      refine bdk z9T (bdk (fine1 z) ?_)
      show (if (1 : Int) ≠ 0 then _ else _) = _
      rw [if_pos (by decide)]
      refine bdk (x9_years52 hn hk hT' 1000 0 mFU 0 (-1) (-1) rfl (by decide) (by decide) (by decide) (by decide)) ?_
      unfold D_X9_years_119 yrsW
      by_cases c0 : w = 0
      · rw [if_neg (fun v => v c0)]
        show _ = some ((if w = 0 then _ else _), _)
        rw [if_pos c0]
      · rw [if_pos c0]
        show _ = some ((if w = 0 then _ else _), _)
        rw [if_neg c0]
        by_cases c1 : w = 1
        · rw [if_neg (fun v => v c1), if_pos c1]
        · rw [if_pos c1, if_neg c1]
    · rw [if_neg q2, if_pos rfl, if_neg (fun v => q2 v.2)]
      exact no
  · rw [if_neg q1, if_pos rfl, if_neg (fun v => q1 v.1)]
    exact no
end YE
