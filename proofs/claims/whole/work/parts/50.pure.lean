/-! THE PURE PART: the store's rows, the small constructors -/
theorem u2_eq {α : Type} (f : Nat → Nat → α) (a k : Nat) (x : α) : u2 f a k x a k = x := if_pos ⟨rfl, rfl⟩
theorem u2_ne {α : Type} (f : Nat → Nat → α) {a k b j : Nat} (x : α) (h : ¬ (b = a ∧ j = k)) : u2 f a k x b j = f b j := if_neg h
theorem nH_new (σ : mS) (t n : Nat) : mH (mNew σ t n) (32 + mN σ) = (t, n) := if_pos rfl
theorem nH_old (σ : mS) (t n : Nat) {b : Nat} (h : b < 32 + mN σ) : mH (mNew σ t n) b = mH σ b := if_neg (by show ¬ b = 32 + mN σ; omega)
theorem gI_k {σ : mS} {a t k n : Nat} (h : mH σ a = (t + 1, n)) : gI σ a t k = some (mI σ a k) := by unfold gI; rw [h]; exact if_pos rfl
theorem gR_k {σ : mS} {a t k n : Nat} (h : mH σ a = (t + 1, n)) : gR σ a t k = some (mR σ a k) := by unfold gR; rw [h]; exact if_pos rfl
theorem pI_k {σ : mS} {a t k n : Nat} {x : Int} (h : mH σ a = (t + 1, n)) : pI σ a t k x = some (mwI σ a k x) := by unfold pI; rw [h]; exact if_pos rfl
theorem pB_k {σ : mS} {a t k n : Nat} {x : Int} (h : mH σ a = (t + 1, n)) (hx : x = 0 ∨ x = 1) : pB σ a t k x = some (mwI σ a k x) := by unfold pB; rw [h]; exact if_pos ⟨rfl, hx⟩
theorem pR_k {σ : mS} {a t k n x : Nat} (h : mH σ a = (t + 1, n)) : pR σ a t k x = some (mwR σ a k x) := by unfold pR; rw [h]; exact if_pos rfl
theorem tgN_k {a : Nat} (h : a ≠ 0) : tgN a = some () := if_neg h
theorem tgO_k {σ : mS} {a t n : Nat} (h : mH σ a = (t + 1, n)) : tgO σ a t = some () := by unfold tgO; rw [h]; exact if_pos rfl
theorem nwO_k {σ : mS} {t n : Nat} (h : mF σ = 0) : nwO σ t n = some (mNew σ (t + 1) n) := if_pos h
theorem nwA_k {σ : mS} {t : Nat} {x : Int} (h : mF σ = 0) (h0 : 0 ≤ x) (h1 : x ≤ 100000) : nwA σ t x = some (mNew σ (51 + t) x.toNat) := if_pos ⟨h, h0, h1⟩
theorem lI_k {σ : mS} {a n : Nat} {i : Int} (h : mH σ a = (51, n)) (h0 : 0 ≤ i) (h1 : i < (n : Nat)) : lI σ a i = some (mI σ a i.toNat) := by unfold lI; rw [h]; exact if_pos ⟨rfl, h0, h1⟩
theorem sI_k {σ : mS} {a n : Nat} {i x : Int} (h : mH σ a = (51, n)) (ha : 32 ≤ a) (h0 : 0 ≤ i) (h1 : i < (n : Nat)) : sI σ a i x = some (mwI σ a i.toNat x) := by unfold sI; rw [h]; exact if_pos ⟨rfl, ha, h0, h1⟩
theorem lR_k {σ : mS} {a t n : Nat} {i : Int} (h : mH σ a = (t, n)) (ht : 55 ≤ t ∧ t ≤ 61) (h0 : 0 ≤ i) (h1 : i < (n : Nat)) : lR σ a i = some (mR σ a i.toNat) := by unfold lR; rw [h]; exact if_pos ⟨ht, h0, h1⟩
/-- a Rule's row -/
def n3 (a : Nat) (σ : mS) : mS := mwI (mwI (mwI (mwI (mwI σ a 0 0) a 1 0) a 2 (-1)) a 3 0) a 4 (-1)
theorem mH_I (σ : mS) (a k : Nat) (x : Int) : mH (mwI σ a k x) = mH σ := rfl
theorem mH_R (σ : mS) (a k x : Nat) : mH (mwR σ a k x) = mH σ := rfl
theorem mN_I (σ : mS) (a k : Nat) (x : Int) : mN (mwI σ a k x) = mN σ := rfl
theorem mN_R (σ : mS) (a k x : Nat) : mN (mwR σ a k x) = mN σ := rfl
theorem mF_I (σ : mS) (a k : Nat) (x : Int) : mF (mwI σ a k x) = mF σ := rfl
theorem mF_R (σ : mS) (a k x : Nat) : mF (mwR σ a k x) = mF σ := rfl
theorem mN_n (σ : mS) (t n : Nat) : mN (mNew σ t n) = mN σ + 1 := rfl
theorem mF_n (σ : mS) (t n : Nat) : mF (mNew σ t n) = mF σ := rfl
theorem i_X3 {a : Nat} {σ : mS} (h0 : a ≠ 0) (h : mH σ a = (4, 5)) : D_X3_init a σ = some (n3 a σ) := by
  unfold D_X3_init
  rw [tgN_k h0, Option.bind_some, pI_k (σ := σ) h, Option.bind_some, pI_k (σ := mwI σ a 0 0) h, Option.bind_some, pI_k (σ := mwI (mwI σ a 0 0) a 1 0) h, Option.bind_some, pI_k (σ := mwI (mwI (mwI σ a 0 0) a 1 0) a 2 (-1)) h, Option.bind_some,
    pI_k (σ := mwI (mwI (mwI (mwI σ a 0 0) a 1 0) a 2 (-1)) a 3 0) h]
  rfl
/-- a Phase's -/
def n1 (a : Nat) (σ : mS) : mS := mwR (mNew (mwI σ a 0 0) 51 6) a 1 (32 + mN σ)
theorem i_X1 {a : Nat} {σ : mS} (h0 : a ≠ 0) (h : mH σ a = (2, 2)) (hb : a < 32 + mN σ) (hf : mF σ = 0) : D_X1_init a σ = some (n1 a σ) := by
  have e1 : mH (mNew (mwI σ a 0 0) 51 6) a = (2, 2) := (nH_old (mwI σ a 0 0) 51 6 hb).trans h
  simp only [D_X1_init, tgN_k h0, Option.bind_some, pI_k (n := 2) h, nwA_k (σ := mwI σ a 0 0) hf (by decide : (0 : Int) ≤ 6) (by decide)]
  exact congrArg (fun o : Option mS => o.bind fun s3 => some s3) (pR_k (n := 2) e1)
/-- a Sample's -/
def n4a (a : Nat) (σ : mS) : mS := mwI (mwI (mwI σ a 0 0) a 1 0) a 2 0
def n4b (a : Nat) (σ : mS) : mS := mwR (mNew (n4a a σ) 51 6) a 3 (32 + mN σ)
def n4 (a : Nat) (σ : mS) : mS := mwR (mNew (n4b a σ) 51 6) a 4 (32 + (mN σ + 1))
theorem i_X4 {a : Nat} {σ : mS} (h0 : a ≠ 0) (h : mH σ a = (5, 5)) (hb : a < 32 + mN σ) (hf : mF σ = 0) : D_X4_init a σ = some (n4 a σ) := by
  have e1 : mH (mNew (n4a a σ) 51 6) a = (5, 5) := (nH_old (n4a a σ) 51 6 hb).trans h
  have e2 : mH (mNew (n4b a σ) 51 6) a = (5, 5) := (nH_old (n4b a σ) 51 6 (by show a < 32 + (mN σ + 1); omega)).trans e1
  unfold D_X4_init
  rw [tgN_k h0, Option.bind_some, pB_k (σ := σ) h (Or.inl rfl), Option.bind_some, pI_k (σ := mwI σ a 0 0) h, Option.bind_some, pI_k (σ := mwI (mwI σ a 0 0) a 1 0) h, Option.bind_some]
  show (nwA (n4a a σ) 0 6).bind _ = _
  rw [nwA_k (σ := n4a a σ) hf (by decide) (by decide), Option.bind_some]
  show (pR (mNew (n4a a σ) 51 6) a 4 3 (32 + mN σ)).bind _ = _
  rw [pR_k e1, Option.bind_some]
  show (nwA (n4b a σ) 0 6).bind _ = _
  rw [nwA_k (σ := n4b a σ) hf (by decide) (by decide), Option.bind_some]
  show (pR (mNew (n4b a σ) 51 6) a 4 4 (32 + (mN σ + 1))).bind _ = _
  rw [pR_k e2]
  rfl
