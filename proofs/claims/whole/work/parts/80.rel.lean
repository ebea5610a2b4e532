/-! THE PURE PART: all that is told, as the desk and as the reference hold it; refusals -/
/-- a byte as the reference holds it -/
def sb (x : Int) : Int := if x < 128 then x else x - 256
/-- T what is told; U, us what may be taken back; B, tn the tape; fp the place of the last fault; rf the refusals -/
def RelC (T : Td) (U : Nat → Td) (us tn : Nat) (B : Nat → Int) (fp : Int) (rf : Nat → Int) (Tri : (Nat → Nat → Int) → Prop) (I : Nat → Nat → Int) (W : Nat → Nat → BitVec 64) (p : Nat → Nat) : Prop :=
  (ClsT 34 T I ∧ AgesC T I ∧ NowC T I W) ∧ ((∀ k, k < 12 → ∃ j, j < 12 ∧ p k = 282 + 74 * j) ∧ (∀ k j, k < 12 → j < 12 → p k = p j → k = j) ∧ ∀ k, k < us → ClsT (p k) (U k) I) ∧
  (I 32 3 = us ∧ I 32 5 = tn ∧ I 32 6 = fp) ∧ (∀ k, k < tn → I 109 k = B k) ∧ (∀ k, k < 3 → I 110 k = rf k) ∧ (∀ s, s < 12 → ∀ y, 1000 ≤ y → y < 1024 → wb (W (221 + 2 + s)) y = false) ∧ (I 254 1 = 0 ∨ (I 254 1 = 1 ∧ Tri I))
def RelM (T : Td) (U : Nat → Td) (us tn : Nat) (B : Nat → Int) (fp : Int) (rf : Nat → Int) (I : Nat → Nat → Int) : Prop :=
  RefT T I ∧ RefF T I ∧ (∀ k, k < us → ∀ j, j < 303 → I 1174 (303 * k + j) = U k j) ∧ (I 1170 5 = us ∧ I 1170 37 = tn ∧ I 1170 44 = fp ∧ I 1170 17 = -1 ∧ I 1170 19 = -1) ∧ (∀ k, k < tn → I 1221 k = sb (B k)) ∧ ∀ k, k < 3 → I 1171 k = rf k
/-- what is so at every call -/
def Good (T : Td) (U : Nat → Td) (us tn : Nat) (B : Nat → Int) : Prop := WF T ∧ us ≤ 12 ∧ tn ≤ 500 ∧ (∀ k, k < us → WF (U k) ∧ ∀ j, 303 ≤ j → U k j = T j) ∧ ∀ k, 0 ≤ B k ∧ B k < 256
section RE
variable {g : Bool} {n : Nat} {c : Nat × Nat × Nat × Nat} {I : Nat → Nat → Int} {W : Nat → Nat → BitVec 64} {p : Nat → Nat} {T : Td}
/-- the counters behind a refusal -/
def xc (c : Nat × Nat × Nat × Nat) : Nat × Nat × Nat × Nat := (c.1 + 1, c.2.1 + 6, c.2.2.1, 1)
/-- the ints behind a refusal of a kind -/
def rI (I : Nat → Nat → Int) (e : Nat) : Nat → Nat → Int := u2 I 110 e (mw (I 110 e + 1))
theorem need1 : D_X8_needArgument 32 1 (st g n c I W p) = some (Sum.inl (), st g n c I W p) := if_pos (by decide)
theorem need0 : D_X8_needArgument 32 0 (st g n c I W p) = some (Sum.inr 1, st g n (xc c) (rI I 1) W p) := by
  unfold D_X8_needArgument
  rw [if_neg (by decide)]
  exact bdk z8R7 (bdk (z8L110 (by decide) (by decide)) (bdk (z8S110 (by decide) (by decide)) rfl))
theorem there1 : D_X8_needThere 32 1 (st g n c I W p) = some (Sum.inl (), st g n c I W p) := if_pos (by decide)
theorem there0 : D_X8_needThere 32 0 (st g n c I W p) = some (Sum.inr 0, st g n (xc c) (rI I 0) W p) := by
  unfold D_X8_needThere
  rw [if_neg (by decide)]
  exact bdk z8R7 (bdk (z8L110 (by decide) (by decide)) (bdk (z8S110 (by decide) (by decide)) rfl))
theorem needSample_k {s : Int} (hT : ClsT 34 T I) : D_X8_needSample 32 s (st g n c I W p) = if 0 ≤ s ∧ s < T 304 then some (Sum.inl (), st g n c I W p) else some (Sum.inr 0, st g n (xc c) (rI I 0) W p) := by
  unfold D_X8_needSample D_X8_needSample_20 D_X8_needSample_21
  by_cases q : s < 0
  · rw [if_pos q, if_neg (by omega)]
    exact bdk z8T (bdk there0 rfl)
  · rw [if_neg q]
    refine bdk z8R1 (bdk (t5I TB34) ?_)
    rw [hT.1.2.2.2.1]
    by_cases q2 : T 304 ≤ s
    · rw [if_pos q2, if_neg (by omega)]
      exact bdk z8T (bdk there0 rfl)
    · rw [if_neg q2, if_pos (by omega)]
      exact bdk z8T (bdk there1 rfl)
theorem needPhase_k {s : Int} (hT : ClsT 34 T I) : D_X8_needPhase 32 s (st g n c I W p) = if 0 ≤ s ∧ s < T 305 then some (Sum.inl (), st g n c I W p) else some (Sum.inr 0, st g n (xc c) (rI I 0) W p) := by
  unfold D_X8_needPhase D_X8_needPhase_20 D_X8_needPhase_21
  by_cases q : s < 0
  · rw [if_pos q, if_neg (by omega)]
    exact bdk z8T (bdk there0 rfl)
  · rw [if_neg q]
    refine bdk z8R1 (bdk (t5I TB34) ?_)
    rw [hT.1.2.2.2.2.1]
    by_cases q2 : T 305 ≤ s
    · rw [if_pos q2, if_neg (by omega)]
      exact bdk z8T (bdk there0 rfl)
    · rw [if_neg q2, if_pos (by omega)]
      exact bdk z8T (bdk there1 rfl)
theorem needRule_k {s : Int} (hT : ClsT 34 T I) : D_X8_needRule 32 s (st g n c I W p) = if 0 ≤ s ∧ s < T 2 then some (Sum.inl (), st g n c I W p) else some (Sum.inr 0, st g n (xc c) (rI I 0) W p) := by
  unfold D_X8_needRule D_X8_needRule_20 D_X8_needRule_21
  by_cases q : s < 0
  · rw [if_pos q, if_neg (by omega)]
    exact bdk z8T (bdk there0 rfl)
  · rw [if_neg q]
    refine bdk z8R1 (bdk (t5I TB34) ?_)
    rw [hT.1.2.2.2.2.2]
    by_cases q2 : T 2 ≤ s
    · rw [if_pos q2, if_neg (by omega)]
      exact bdk z8T (bdk there0 rfl)
    · rw [if_neg q2, if_pos (by omega)]
      exact bdk z8T (bdk there1 rfl)
theorem needYear_k {s : Int} : D_X8_needYear 32 s (st g n c I W p) = if 0 ≤ s ∧ s < 1000 then some (Sum.inl (), st g n c I W p) else some (Sum.inr 0, st g n (xc c) (rI I 0) W p) := by
  unfold D_X8_needYear D_X8_isYear D_X8_isYear_15 D_X8_isYear_16
  by_cases q : s < 0
  · rw [if_pos q, if_neg (by omega)]
    exact bdk (x := (0 : Int)) rfl (bdk z8T (bdk there0 rfl))
  · rw [if_neg q]
    by_cases q2 : 1000 ≤ s
    · rw [if_pos q2, if_neg (by omega)]
      exact bdk (x := (0 : Int)) rfl (bdk z8T (bdk there0 rfl))
    · rw [if_neg q2, if_pos (by omega)]
      exact bdk (x := (1 : Int)) rfl (bdk z8T (bdk there1 rfl))
/-! the reference's -/
theorem within_k {x a b : Int} {σ : mS} : D_X9_within x a b σ = some (if a ≤ x ∧ x ≤ b then 1 else 0) := by
  unfold D_X9_within D_X9_within_14 D_X9_within_15
  by_cases q : x < a
  · rw [if_pos q, if_neg (by omega)]; rfl
  · rw [if_neg q]
    by_cases q2 : b < x
    · rw [if_pos q2, if_neg (by omega)]; rfl
    · rw [if_neg q2, if_pos (by omega)]; rfl
/-- the ints behind a refusal of the reference -/
def rJ (I : Nat → Nat → Int) (code : Int) (kind : Nat) : Nat → Nat → Int := u2 (u2 I 1170 0 code) 1171 kind (mw (I 1171 kind + 1))
theorem fine1 {code kind : Int} (h0 : I 1170 0 = 0) : D_X9_isFine 1170 1 code kind (st true n c I W p) = some (1, st true n c I W p) := by
  unfold D_X9_isFine D_X9_isFine_26
  rw [if_pos (by decide)]
  refine bdk z9I ?_
  rw [h0, if_neg (by decide)]
  rfl
theorem fine0 {code : Int} {kind : Nat} (hc : code ≠ 0) (hk : kind < 3) (h0 : I 1170 0 = 0) : D_X9_isFine 1170 0 code (kind : Int) (st true n c I W p) = some (0, st true n c (rJ I code kind) W p) := by
  unfold D_X9_isFine D_X9_isFine_26
  rw [if_neg (by decide)]
  refine bdk z9I ?_
  rw [h0, if_neg (by decide)]
  refine bdk z9P (bdk z9R1 (bdk (z9L1 (by omega) (by omega)) (bdk (z9S1 (by omega) (by omega)) (bdk z9I ?_))))
  have v : u2 I 1170 0 code 1171 kind = I 1171 kind := by rw [u2_def, if_neg (by omega)]
  rw [toN, v]
  rw [if_pos (by rw [u2_def, if_neg (by omega), u2_def, if_pos ⟨rfl, rfl⟩]; exact hc)]
  rfl
end RE
