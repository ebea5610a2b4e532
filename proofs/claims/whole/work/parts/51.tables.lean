/-! THE PURE PART: the store behind the constructors, as tables: shapes and references by their places -/
def toldH (o : Nat) : Nat × Nat :=
  if o < 6 then (if o = 0 then (6, 11) else if o < 3 then (51, 16) else if o = 3 then (56, 12) else if o = 4 then (57, 4) else (58, 24))
  else if o < 42 then (if o % 3 = 0 then (5, 5) else (51, 6))
  else if o < 50 then (if o % 2 = 0 then (2, 2) else (51, 6)) else (4, 5)
def toldR (a o k : Nat) : Nat :=
  if o = 0 then (if 6 ≤ k ∧ k ≤ 10 then a + k - 5 else 0)
  else if o = 3 then (if k < 12 then a + 6 + 3 * k else 0)
  else if o = 4 then (if k < 4 then a + 42 + 2 * k else 0)
  else if o = 5 then (if k < 24 then a + 50 + k else 0)
  else if 6 ≤ o ∧ o < 42 ∧ o % 3 = 0 then (if k = 3 then a + o + 1 else if k = 4 then a + o + 2 else 0)
  else if 42 ≤ o ∧ o < 50 ∧ o % 2 = 0 then (if k = 1 then a + o + 1 else 0) else 0
def toldI (o k : Nat) : Int := if o = 0 ∧ k = 0 then 1 else if 50 ≤ o ∧ (k = 2 ∨ k = 4) then -1 else 0
def narH (o : Nat) : Nat × Nat :=
  if o = 0 then (1, 15) else if o = 1 ∨ o = 14 then (59, 12) else if o < 27 then (52, 16) else if o < 30 then (51, 12) else if o = 30 then (51, 24) else if o = 31 then (51, 1000) else (52, 16)
def narR (a o k : Nat) : Nat :=
  if o = 0 then (if k = 0 then 34 else if k = 1 then 33 else if k = 2 then a + 1 else if k = 3 then a + 14 else if k = 4 then a + 27 else if k = 5 then a + 28 else if k = 6 then a + 29 else if k = 7 then a + 30 else if k = 11 then a + 31 else if k = 12 then a + 32 else 0)
  else if o = 1 ∨ o = 14 then (if k < 12 then a + o + 1 + k else 0) else 0
def narI (o k : Nat) : Int := if o = 0 then (if k = 9 ∨ k = 10 then -2 else if k = 13 then -1 else 0) else 0
def triH (o : Nat) : Nat × Nat := if o = 0 then (7, 8) else if o = 2 ∨ o = 15 then (60, 12) else (51, 12)
def triR (a o k : Nat) : Nat :=
  if o = 0 then (if k = 0 then a + 1 else if k = 4 then 34 else if k = 5 then 188 else if k = 6 then a + 2 else if k = 7 then a + 15 else 0)
  else if o = 2 ∨ o = 15 then (if k < 12 then a + o + 1 + k else 0) else 0
def refH (o : Nat) : Nat × Nat :=
  if o < 9 then (if o = 0 then (9, 53) else if o = 1 then (51, 3) else if o < 4 then (51, 303) else if o = 4 then (51, 3636) else if o < 7 then (51, 16) else if o = 7 then (51, 4) else (51, 24))
  else if o < 48 then (if o = 9 ∨ o = 22 ∨ o = 35 then (61, 12) else (53, 1000))
  else if o < 59 then (if o = 48 then (51, 24) else if o = 49 then (51, 1001) else if o = 50 then (53, 1000) else if o < 53 then (54, 500) else if o = 53 then (54, 112) else if o < 56 then (51, 16) else if o = 56 then (51, 4) else if o = 57 then (51, 24) else (51, 8))
  else if o = 59 then (61, 12) else if o < 72 then (53, 1000) else if o = 72 then (51, 12) else (52, 1)
def refR (a o k : Nat) : Nat :=
  if o = 0 then (if k < 9 then (if k = 0 then 0 else if k < 5 then a + k else 0) else if k < 13 then a + k - 4 else if k = 13 then a + 9 else if k = 14 then a + 22 else if k = 15 then a + 35 else if k = 25 then a + 48 else if k = 26 then a + 49 else if k = 27 then a + 50
    else if k = 29 then a + 51 else if k = 30 then a + 52 else if k = 31 then a + 53 else if 32 ≤ k ∧ k ≤ 36 then a + 22 + k else if k = 50 then a + 59 else if k = 51 then a + 72 else 0)
  else if o = 9 ∨ o = 22 ∨ o = 35 ∨ o = 59 then (if k < 12 then a + o + 1 + k else 0) else 0
def refI (o k : Nat) : Int :=
  if o = 0 then (if k = 8 then 2 else if k = 17 ∨ k = 19 ∨ k = 44 then -1 else 0) else if o = 2 ∧ k = 0 then 1 else if o = 5 ∧ k = 1 then 999 else if o = 6 ∧ k = 0 then 1000 else if o = 6 ∧ k = 1 then 1 else 0
def HC (g : Bool) (a : Nat) : Nat × Nat :=
  if a < 188 then
    (if a < 34 then (if a = 32 then (8, 12) else if a = 33 then (51, 1000) else (0, 0))
    else if a < 108 then toldH (a - 34)
    else if a < 112 then (if a = 108 then (55, 12) else if a = 109 then (51, 500) else if a = 110 then (51, 3) else (3, 12))
    else if a < 186 then toldH (a - 112) else if a = 186 then (51, 12) else (51, 4))
  else if a < 282 then (if a < 221 then narH (a - 188) else if a < 254 then narH (a - 221) else triH (a - 254))
  else if a < 1170 then toldH ((a - 282) % 74)
  else if g = true ∧ a < 1244 then refH (a - 1170) else (0, 0)
def HH (g : Bool) (n a : Nat) : Nat × Nat := if a = 1 then (51, n) else HC g a
def RR (g : Bool) (a k : Nat) : Nat :=
  if a < 188 then
    (if a < 34 then (if a = 32 then (if k = 0 then 33 else if k = 1 then 34 else if k = 2 then 108 else if k = 4 then 109 else if k = 7 then 110 else if k = 8 then 111 else if k = 9 then 188 else if k = 10 then 221 else if k = 11 then 254 else 0) else 0)
    else if a < 108 then toldR 34 (a - 34) k
    else if a < 112 then (if a = 111 then (if k = 0 then 112 else if k = 3 then 109 else if k = 10 then 186 else if k = 11 then 187 else 0) else 0)
    else if a < 186 then toldR 112 (a - 112) k else 0)
  else if a < 282 then (if a < 221 then narR 188 (a - 188) k else if a < 254 then narR 221 (a - 221) k else triR 254 (a - 254) k)
  else if a < 1170 then toldR (a - (a - 282) % 74) ((a - 282) % 74) k
  else if g = true ∧ a < 1244 then refR 1170 (a - 1170) k else 0
/-- the store: the script's length, the counters, the ints, the longs, the row of past ones -/
def st (g : Bool) (n : Nat) (c : Nat × Nat × Nat × Nat) (I : Nat → Nat → Int) (W : Nat → Nat → BitVec 64) (p : Nat → Nat) : mS := (c, HH g n, I, W, fun a k => if a = 108 then p k else RR g a k)
theorem HH_k {g : Bool} {n a t m : Nat} (h : HC g a = (t + 1, m)) : HH g n a = (t + 1, m) := by
  unfold HH
  split
  · rename_i e
    subst e
    cases (show ((0 : Nat), (0 : Nat)) = (t + 1, m) from h)
  · exact h
section SK
variable {g : Bool} {n : Nat} {c : Nat × Nat × Nat × Nat} {I : Nat → Nat → Int} {W : Nat → Nat → BitVec 64} {p : Nat → Nat} {a t k m : Nat}
theorem s_gI (h : HC g a = (t + 1, m)) : gI (st g n c I W p) a t k = some (I a k) := gI_k (σ := st g n c I W p) (HH_k h)
theorem s_gR (h : HC g a = (t + 1, m)) (h2 : a ≠ 108) : gR (st g n c I W p) a t k = some (RR g a k) := (gR_k (σ := st g n c I W p) (HH_k h)).trans (congrArg some (if_neg h2))
theorem s_pI {x : Int} (h : HC g a = (t + 1, m)) : pI (st g n c I W p) a t k x = some (st g n c (u2 I a k x) W p) := pI_k (σ := st g n c I W p) (HH_k h)
theorem s_pB {x : Int} (h : HC g a = (t + 1, m)) (hx : x = 0 ∨ x = 1) : pB (st g n c I W p) a t k x = some (st g n c (u2 I a k x) W p) := pB_k (σ := st g n c I W p) (HH_k h) hx
theorem s_tgO (h : HC g a = (t + 1, m)) : tgO (st g n c I W p) a t = some () := tgO_k (σ := st g n c I W p) (HH_k h)
theorem s_lI {i : Int} (h : HC g a = (51, m)) (h0 : 0 ≤ i) (h1 : i < (m : Nat)) : lI (st g n c I W p) a i = some (I a i.toNat) := lI_k (σ := st g n c I W p) (HH_k h) h0 h1
theorem s_lIx {i : Int} (h0 : 0 ≤ i) (h1 : i < (n : Nat)) : lI (st g n c I W p) 1 i = some (I 1 i.toNat) := lI_k (σ := st g n c I W p) (show HH g n 1 = (51, n) from rfl) h0 h1
theorem s_aLn {n : Nat} (h1 : n < 2147483648) : aLn (st g n c I W p) 1 = some (n : Nat) := by
  unfold aLn
  rw [show mH (st g n c I W p) 1 = (51, n) from rfl]
  exact if_pos ⟨rfl, h1⟩
theorem HC32 (h : HC g a ≠ (0, 0)) : 32 ≤ a := by
  by_cases q : a < 32
  · exfalso
    apply h
    unfold HC
    rw [if_pos (by omega), if_pos (by omega), if_neg (by omega), if_neg (by omega)]
  · omega
theorem s_sI {i x : Int} (h : HC g a = (51, m)) (h0 : 0 ≤ i) (h1 : i < (m : Nat)) : sI (st g n c I W p) a i x = some (st g n c (u2 I a i.toNat x) W p) :=
  sI_k (σ := st g n c I W p) (HH_k h) (HC32 (by rw [h]; intro e; cases e)) h0 h1
theorem s_lL {i : Int} (h : HC g a = (52, m)) (h0 : 0 ≤ i) (h1 : i < (m : Nat)) : lL (st g n c I W p) a i = some (W a i.toNat) := by
  have e : mH (st g n c I W p) a = (52, m) := HH_k h
  unfold lL
  rw [e]
  exact if_pos ⟨rfl, h0, h1⟩
theorem s_sL {i : Int} {x : BitVec 64} (h : HC g a = (52, m)) (h0 : 0 ≤ i) (h1 : i < (m : Nat)) : sL (st g n c I W p) a i x = some (st g n c I (u2 W a i.toNat x) p) := by
  have e : mH (st g n c I W p) a = (52, m) := HH_k h
  unfold sL
  rw [e]
  exact if_pos ⟨rfl, HC32 (by rw [h]; intro e; cases e), h0, h1⟩
theorem s_lB {i : Int} (ht : t = 53 ∨ t = 54) (h : HC g a = (t, m)) (h0 : 0 ≤ i) (h1 : i < (m : Nat)) : lB (st g n c I W p) a i = some (I a i.toNat) := by
  obtain ⟨u, rfl⟩ : ∃ u, t = u + 1 := ⟨t - 1, by omega⟩
  have e : mH (st g n c I W p) a = (u + 1, m) := HH_k h
  unfold lB
  rw [e]
  exact if_pos ⟨ht, h0, h1⟩
theorem s_sBo {i x : Int} (h : HC g a = (53, m)) (hx : x = 0 ∨ x = 1) (h0 : 0 ≤ i) (h1 : i < (m : Nat)) : sB (st g n c I W p) a i x = some (st g n c (u2 I a i.toNat x) W p) := by
  have e : mH (st g n c I W p) a = (53, m) := HH_k h
  unfold sB
  rw [e]
  exact if_pos ⟨Or.inl ⟨rfl, hx⟩, h0, h1⟩
theorem s_sBy {i x : Int} (h : HC g a = (54, m)) (hx : -128 ≤ x ∧ x < 128) (h0 : 0 ≤ i) (h1 : i < (m : Nat)) : sB (st g n c I W p) a i x = some (st g n c (u2 I a i.toNat x) W p) := by
  have e : mH (st g n c I W p) a = (54, m) := HH_k h
  unfold sB
  rw [e]
  exact if_pos ⟨Or.inr ⟨rfl, hx⟩, h0, h1⟩
theorem s_lR {i : Int} (h : HC g a = (t + 55, m)) (ht : t < 7) (h2 : a ≠ 108) (h0 : 0 ≤ i) (h1 : i < (m : Nat)) : lR (st g n c I W p) a i = some (RR g a i.toNat) := by
  have e : mH (st g n c I W p) a = (t + 55, m) := HH_k h
  exact (lR_k e (by omega) h0 h1).trans (congrArg some (if_neg h2))
theorem s_lRp {i : Int} (h0 : 0 ≤ i) (h1 : i < 12) : lR (st g n c I W p) 108 i = some (p i.toNat) := lR_k (σ := st g n c I W p) (show HH g n 108 = (55, 12) from rfl) (by decide) h0 h1
theorem s_sRp {i : Int} {x : Nat} (h0 : 0 ≤ i) (h1 : i < 12) (hx : HC g x = (6, m)) : sR (st g n c I W p) 108 i x = some (st g n c I W (fun j => if j = i.toNat then x else p j)) := by
  have e : mH (st g n c I W p) x = (6, m) := HH_k hx
  have e2 : mH (st g n c I W p) 108 = (55, 12) := rfl
  unfold sR
  rw [e, e2]
  refine (if_pos ⟨by decide, rfl, h0, h1⟩).trans (congrArg some ?_)
  refine congrArg (fun z => (c, HH g n, I, W, z)) ?_
  funext b j
  show u2 (fun a k => if a = 108 then p k else RR g a k) 108 i.toNat x b j = _
  unfold u2
  show _ = if b = 108 then (if j = i.toNat then x else p j) else RR g b j
  by_cases e1 : b = 108
  · subst e1
    by_cases e3 : j = i.toNat
    · rw [if_pos ⟨rfl, e3⟩, if_pos rfl, if_pos e3]
    · rw [if_neg (fun q => e3 q.2), if_pos rfl, if_neg e3]
      exact if_pos rfl
  · rw [if_neg (fun q => e1 q.1), if_neg e1]
    exact if_neg e1
theorem s_cpI {b : Nat} {i : Int} {m2 : Nat} (h : HC g a = (51, m)) (hb : HC g b = (51, m2)) (h0 : 0 ≤ i) (h1 : i ≤ (m : Nat)) (h2 : i ≤ (m2 : Nat)) : cpI (st g n c I W p) a b i = some (st g n c (fun r j => if r = b ∧ j < i.toNat then I a j else I r j) W p) := by
  have e : mH (st g n c I W p) a = (51, m) := HH_k h
  have e2 : mH (st g n c I W p) b = (51, m2) := HH_k hb
  unfold cpI
  rw [e, e2]
  exact if_pos ⟨rfl, rfl, HC32 (by rw [h]; intro e; cases e), HC32 (by rw [hb]; intro e; cases e), h0, h1, h2⟩
theorem s_cpL {b : Nat} {i : Int} {m2 : Nat} (h : HC g a = (52, m)) (hb : HC g b = (52, m2)) (h0 : 0 ≤ i) (h1 : i ≤ (m : Nat)) (h2 : i ≤ (m2 : Nat)) : cpL (st g n c I W p) a b i = some (st g n c I (fun r j => if r = b ∧ j < i.toNat then W a j else W r j) p) := by
  have e : mH (st g n c I W p) a = (52, m) := HH_k h
  have e2 : mH (st g n c I W p) b = (52, m2) := HH_k hb
  unfold cpL
  rw [e, e2]
  exact if_pos ⟨rfl, rfl, HC32 (by rw [h]; intro e; cases e), HC32 (by rw [hb]; intro e; cases e), h0, h1, h2⟩
theorem s_exc : mExc (st g n c I W p) = st g n (c.1 + 1, c.2.1 + 6, c.2.2.1, 1) I W p := rfl
end SK
/-- the places of what may be told: the desk's own, the reader's, the twelve past ones -/
def tb (j : Nat) : Nat := if j = 0 then 34 else if j = 1 then 112 else 282 + 74 * (j - 2)
def TB (b : Nat) : Prop := ∃ j, j < 14 ∧ b = tb j
theorem TB34 : TB 34 := ⟨0, by decide, rfl⟩
theorem TB112 : TB 112 := ⟨1, by decide, rfl⟩
theorem TBp {k : Nat} (h : k < 12) : TB (282 + 74 * k) := ⟨k + 2, by omega, by unfold tb; rw [if_neg (by omega), if_neg (by omega)]; rfl⟩
section TBs
variable {g : Bool} {b k : Nat}
theorem tH0 (h : TB b) : HC g b = (6, 11) := by obtain ⟨j, hj, rfl⟩ := h; exact (by decide +kernel : ∀ g : Bool, ∀ j, j < 14 → HC g (tb j) = (6, 11)) g j hj
theorem tH1 (h : TB b) : HC g (b + 1) = (51, 16) := by obtain ⟨j, hj, rfl⟩ := h; exact (by decide +kernel : ∀ g : Bool, ∀ j, j < 14 → HC g (tb j + 1) = (51, 16)) g j hj
theorem tH2 (h : TB b) : HC g (b + 2) = (51, 16) := by obtain ⟨j, hj, rfl⟩ := h; exact (by decide +kernel : ∀ g : Bool, ∀ j, j < 14 → HC g (tb j + 2) = (51, 16)) g j hj
theorem tH3 (h : TB b) : HC g (b + 3) = (56, 12) := by obtain ⟨j, hj, rfl⟩ := h; exact (by decide +kernel : ∀ g : Bool, ∀ j, j < 14 → HC g (tb j + 3) = (56, 12)) g j hj
theorem tH4 (h : TB b) : HC g (b + 4) = (57, 4) := by obtain ⟨j, hj, rfl⟩ := h; exact (by decide +kernel : ∀ g : Bool, ∀ j, j < 14 → HC g (tb j + 4) = (57, 4)) g j hj
theorem tH5 (h : TB b) : HC g (b + 5) = (58, 24) := by obtain ⟨j, hj, rfl⟩ := h; exact (by decide +kernel : ∀ g : Bool, ∀ j, j < 14 → HC g (tb j + 5) = (58, 24)) g j hj
theorem tHs (h : TB b) (hk : k < 12) : HC g (b + 6 + 3 * k) = (5, 5) := by obtain ⟨j, hj, rfl⟩ := h; exact (by decide +kernel : ∀ g : Bool, ∀ j, j < 14 → ∀ k, k < 12 → HC g (tb j + 6 + 3 * k) = (5, 5)) g j hj k hk
theorem tHs1 (h : TB b) (hk : k < 12) : HC g (b + 6 + 3 * k + 1) = (51, 6) := by obtain ⟨j, hj, rfl⟩ := h; exact (by decide +kernel : ∀ g : Bool, ∀ j, j < 14 → ∀ k, k < 12 → HC g (tb j + 6 + 3 * k + 1) = (51, 6)) g j hj k hk
theorem tHs2 (h : TB b) (hk : k < 12) : HC g (b + 6 + 3 * k + 2) = (51, 6) := by obtain ⟨j, hj, rfl⟩ := h; exact (by decide +kernel : ∀ g : Bool, ∀ j, j < 14 → ∀ k, k < 12 → HC g (tb j + 6 + 3 * k + 2) = (51, 6)) g j hj k hk
theorem tHp (h : TB b) (hk : k < 4) : HC g (b + 42 + 2 * k) = (2, 2) := by obtain ⟨j, hj, rfl⟩ := h; exact (by decide +kernel : ∀ g : Bool, ∀ j, j < 14 → ∀ k, k < 4 → HC g (tb j + 42 + 2 * k) = (2, 2)) g j hj k hk
theorem tHp1 (h : TB b) (hk : k < 4) : HC g (b + 42 + 2 * k + 1) = (51, 6) := by obtain ⟨j, hj, rfl⟩ := h; exact (by decide +kernel : ∀ g : Bool, ∀ j, j < 14 → ∀ k, k < 4 → HC g (tb j + 42 + 2 * k + 1) = (51, 6)) g j hj k hk
theorem tHr (h : TB b) (hk : k < 24) : HC g (b + 50 + k) = (4, 5) := by obtain ⟨j, hj, rfl⟩ := h; exact (by decide +kernel : ∀ g : Bool, ∀ j, j < 14 → ∀ k, k < 24 → HC g (tb j + 50 + k) = (4, 5)) g j hj k hk
theorem tR6 (h : TB b) : RR g b 6 = b + 1 := by obtain ⟨j, hj, rfl⟩ := h; exact (by decide +kernel : ∀ g : Bool, ∀ j, j < 14 → RR g (tb j) 6 = tb j + 1) g j hj
theorem tR7 (h : TB b) : RR g b 7 = b + 2 := by obtain ⟨j, hj, rfl⟩ := h; exact (by decide +kernel : ∀ g : Bool, ∀ j, j < 14 → RR g (tb j) 7 = tb j + 2) g j hj
theorem tR8 (h : TB b) : RR g b 8 = b + 3 := by obtain ⟨j, hj, rfl⟩ := h; exact (by decide +kernel : ∀ g : Bool, ∀ j, j < 14 → RR g (tb j) 8 = tb j + 3) g j hj
theorem tR9 (h : TB b) : RR g b 9 = b + 4 := by obtain ⟨j, hj, rfl⟩ := h; exact (by decide +kernel : ∀ g : Bool, ∀ j, j < 14 → RR g (tb j) 9 = tb j + 4) g j hj
theorem tR10 (h : TB b) : RR g b 10 = b + 5 := by obtain ⟨j, hj, rfl⟩ := h; exact (by decide +kernel : ∀ g : Bool, ∀ j, j < 14 → RR g (tb j) 10 = tb j + 5) g j hj
theorem tRs (h : TB b) (hk : k < 12) : RR g (b + 3) k = b + 6 + 3 * k := by obtain ⟨j, hj, rfl⟩ := h; exact (by decide +kernel : ∀ g : Bool, ∀ j, j < 14 → ∀ k, k < 12 → RR g (tb j + 3) k = tb j + 6 + 3 * k) g j hj k hk
theorem tRp (h : TB b) (hk : k < 4) : RR g (b + 4) k = b + 42 + 2 * k := by obtain ⟨j, hj, rfl⟩ := h; exact (by decide +kernel : ∀ g : Bool, ∀ j, j < 14 → ∀ k, k < 4 → RR g (tb j + 4) k = tb j + 42 + 2 * k) g j hj k hk
theorem tRr (h : TB b) (hk : k < 24) : RR g (b + 5) k = b + 50 + k := by obtain ⟨j, hj, rfl⟩ := h; exact (by decide +kernel : ∀ g : Bool, ∀ j, j < 14 → ∀ k, k < 24 → RR g (tb j + 5) k = tb j + 50 + k) g j hj k hk
theorem tRs3 (h : TB b) (hk : k < 12) : RR g (b + 6 + 3 * k) 3 = b + 6 + 3 * k + 1 := by obtain ⟨j, hj, rfl⟩ := h; exact (by decide +kernel : ∀ g : Bool, ∀ j, j < 14 → ∀ k, k < 12 → RR g (tb j + 6 + 3 * k) 3 = tb j + 6 + 3 * k + 1) g j hj k hk
theorem tRs4 (h : TB b) (hk : k < 12) : RR g (b + 6 + 3 * k) 4 = b + 6 + 3 * k + 2 := by obtain ⟨j, hj, rfl⟩ := h; exact (by decide +kernel : ∀ g : Bool, ∀ j, j < 14 → ∀ k, k < 12 → RR g (tb j + 6 + 3 * k) 4 = tb j + 6 + 3 * k + 2) g j hj k hk
theorem tRp1 (h : TB b) (hk : k < 4) : RR g (b + 42 + 2 * k) 1 = b + 42 + 2 * k + 1 := by obtain ⟨j, hj, rfl⟩ := h; exact (by decide +kernel : ∀ g : Bool, ∀ j, j < 14 → ∀ k, k < 4 → RR g (tb j + 42 + 2 * k) 1 = tb j + 42 + 2 * k + 1) g j hj k hk
theorem TB_rng (h : TB b) : 34 ≤ b ∧ b + 74 ≤ 1170 ∧ (b = 34 ∨ b = 112 ∨ 282 ≤ b) := by
  obtain ⟨j, hj, rfl⟩ := h
  unfold tb
  split
  · omega
  · split <;> omega
end TBs
