/-! what the walked methods are told in: reads and writes with their conditions -/
theorem mi_c {n : Int} (h : (decide (-2147483648 ≤ n) && decide (n < 2147483648)) = true) : mIn n := by
  simp only [Bool.and_eq_true, decide_eq_true_eq] at h
  exact h
theorem ev_bp {G : mG} {M : mM} {pc : Nat} {lo : List (Nat × mV)} {st : List mV} {σ τ : mS} {r : mX} {n : Int} (d : decode (mCo M) pc = .ok (.bipush n, 2)) (h : (decide (-128 ≤ n) && decide (n < 128)) = true) (k : Ev G M (pc + 2) lo (vi n :: st) σ r τ) : Ev G M pc lo st σ r τ := by
  simp only [Bool.and_eq_true, decide_eq_true_eq] at h
  refine ev_bipush d ?_ ⟨by omega, by omega⟩ k
  apply Int32.toInt_inj.1
  rw [Int8.toInt_toInt32, oi_to ⟨by omega, by omega⟩, Int8.toInt_ofInt_of_le (by omega) (by omega)]
theorem ev_sp {G : mG} {M : mM} {pc : Nat} {lo : List (Nat × mV)} {st : List mV} {σ τ : mS} {r : mX} {n : Int} (d : decode (mCo M) pc = .ok (.sipush n, 3)) (h : (decide (-32768 ≤ n) && decide (n < 32768)) = true) (k : Ev G M (pc + 3) lo (vi n :: st) σ r τ) : Ev G M pc lo st σ r τ := by
  simp only [Bool.and_eq_true, decide_eq_true_eq] at h
  refine ev_sipush d ?_ ⟨by omega, by omega⟩ k
  apply Int32.toInt_inj.1
  rw [Int16.toInt_toInt32, oi_to ⟨by omega, by omega⟩, Int16.toInt_ofInt_of_le (by omega) (by omega)]
def mPk (lo : List (Nat × mV)) (ks : List Nat) : List (Nat × mV) := ks.filterMap (fun k => lo[k]?)
theorem Ev.pick {G : mG} {M : mM} {pc : Nat} {lo lo' : List (Nat × mV)} {st : List mV} {σ τ : mS} {r : mX} (ks : List Nat) (e : mPk lo ks = lo') (k : Ev G M pc lo' st σ r τ) : Ev G M pc lo st σ r τ := by
  subst e
  refine Ev.sub (fun q hq => ?_) k
  obtain ⟨i, -, hi⟩ := List.mem_filterMap.mp hq
  exact List.mem_of_getElem? hi
theorem bd {α β : Type} {x : Option α} {f : α → Option β} {R : β} (h : x.bind f = some R) : ∃ v, x = some v ∧ f v = some R := Option.bind_eq_some_iff.mp h
def gI (σ : mS) (a t k : Nat) : Option Int := if (mH σ a).1 = t + 1 then some (mI σ a k) else none
theorem gI_s {σ : mS} {a t k : Nat} {v : Int} (h : gI σ a t k = some v) : (mH σ a).1 = t + 1 ∧ v = mI σ a k := by
  unfold gI at h
  split at h
  · exact ⟨by assumption, (Option.some.inj h).symm⟩
  · cases h
def gR (σ : mS) (a t k : Nat) : Option Nat := if (mH σ a).1 = t + 1 then some (mR σ a k) else none
theorem gR_s {σ : mS} {a t k v : Nat} (h : gR σ a t k = some v) : (mH σ a).1 = t + 1 ∧ v = mR σ a k := by
  unfold gR at h
  split at h
  · exact ⟨by assumption, (Option.some.inj h).symm⟩
  · cases h
def pI (σ : mS) (a t k : Nat) (x : Int) : Option mS := if (mH σ a).1 = t + 1 then some (mwI σ a k x) else none
theorem pI_s {σ σ' : mS} {a t k : Nat} {x : Int} (h : pI σ a t k x = some σ') : (mH σ a).1 = t + 1 ∧ σ' = mwI σ a k x := by
  unfold pI at h
  split at h
  · exact ⟨by assumption, (Option.some.inj h).symm⟩
  · cases h
def pB (σ : mS) (a t k : Nat) (x : Int) : Option mS := if (mH σ a).1 = t + 1 ∧ (x = 0 ∨ x = 1) then some (mwI σ a k x) else none
theorem pB_s {σ σ' : mS} {a t k : Nat} {x : Int} (h : pB σ a t k x = some σ') : (mH σ a).1 = t + 1 ∧ (x = 0 ∨ x = 1) ∧ σ' = mwI σ a k x := by
  unfold pB at h
  split at h
  · rename_i c
    exact ⟨c.1, c.2, (Option.some.inj h).symm⟩
  · cases h
def pR (σ : mS) (a t k : Nat) (x : Nat) : Option mS := if (mH σ a).1 = t + 1 then some (mwR σ a k x) else none
theorem pR_s {σ σ' : mS} {a t k : Nat} {x : Nat} (h : pR σ a t k x = some σ') : (mH σ a).1 = t + 1 ∧ σ' = mwR σ a k x := by
  unfold pR at h
  split at h
  · exact ⟨by assumption, (Option.some.inj h).symm⟩
  · cases h
def lI (σ : mS) (a : Nat) (i : Int) : Option Int := if (mH σ a).1 = 51 ∧ 0 ≤ i ∧ i < ((mH σ a).2 : Nat) then some (mI σ a i.toNat) else none
theorem lI_s {σ : mS} {a : Nat} {i v : Int} (h : lI σ a i = some v) : (mH σ a).1 = 51 ∧ 0 ≤ i ∧ i < ((mH σ a).2 : Nat) ∧ v = mI σ a i.toNat := by
  unfold lI at h
  split at h
  · rename_i c
    exact ⟨c.1, c.2.1, c.2.2, (Option.some.inj h).symm⟩
  · cases h
def lL (σ : mS) (a : Nat) (i : Int) : Option (BitVec 64) := if (mH σ a).1 = 52 ∧ 0 ≤ i ∧ i < ((mH σ a).2 : Nat) then some (mL σ a i.toNat) else none
theorem lL_s {σ : mS} {a : Nat} {i : Int} {v : BitVec 64} (h : lL σ a i = some v) : (mH σ a).1 = 52 ∧ 0 ≤ i ∧ i < ((mH σ a).2 : Nat) ∧ v = mL σ a i.toNat := by
  unfold lL at h
  split at h
  · rename_i c
    exact ⟨c.1, c.2.1, c.2.2, (Option.some.inj h).symm⟩
  · cases h
def lB (σ : mS) (a : Nat) (i : Int) : Option Int := if ((mH σ a).1 = 53 ∨ (mH σ a).1 = 54) ∧ 0 ≤ i ∧ i < ((mH σ a).2 : Nat) then some (mI σ a i.toNat) else none
theorem lB_s {σ : mS} {a : Nat} {i v : Int} (h : lB σ a i = some v) : ((mH σ a).1 = 53 ∨ (mH σ a).1 = 54) ∧ 0 ≤ i ∧ i < ((mH σ a).2 : Nat) ∧ v = mI σ a i.toNat := by
  unfold lB at h
  split at h
  · rename_i c
    exact ⟨c.1, c.2.1, c.2.2, (Option.some.inj h).symm⟩
  · cases h
def lR (σ : mS) (a : Nat) (i : Int) : Option Nat := if (55 ≤ (mH σ a).1 ∧ (mH σ a).1 ≤ 61) ∧ 0 ≤ i ∧ i < ((mH σ a).2 : Nat) then some (mR σ a i.toNat) else none
theorem lR_s {σ : mS} {a v : Nat} {i : Int} (h : lR σ a i = some v) : (55 ≤ (mH σ a).1 ∧ (mH σ a).1 ≤ 61) ∧ 0 ≤ i ∧ i < ((mH σ a).2 : Nat) ∧ v = mR σ a i.toNat := by
  unfold lR at h
  split at h
  · rename_i c
    exact ⟨c.1, c.2.1, c.2.2, (Option.some.inj h).symm⟩
  · cases h
def sI (σ : mS) (a : Nat) (i x : Int) : Option mS := if (mH σ a).1 = 51 ∧ 32 ≤ a ∧ 0 ≤ i ∧ i < ((mH σ a).2 : Nat) then some (mwI σ a i.toNat x) else none
theorem sI_s {σ σ' : mS} {a : Nat} {i x : Int} (h : sI σ a i x = some σ') : (mH σ a).1 = 51 ∧ 32 ≤ a ∧ 0 ≤ i ∧ i < ((mH σ a).2 : Nat) ∧ σ' = mwI σ a i.toNat x := by
  unfold sI at h
  split at h
  · rename_i c
    exact ⟨c.1, c.2.1, c.2.2.1, c.2.2.2, (Option.some.inj h).symm⟩
  · cases h
def sL (σ : mS) (a : Nat) (i : Int) (x : BitVec 64) : Option mS := if (mH σ a).1 = 52 ∧ 32 ≤ a ∧ 0 ≤ i ∧ i < ((mH σ a).2 : Nat) then some (mwL σ a i.toNat x) else none
theorem sL_s {σ σ' : mS} {a : Nat} {i : Int} {x : BitVec 64} (h : sL σ a i x = some σ') : (mH σ a).1 = 52 ∧ 32 ≤ a ∧ 0 ≤ i ∧ i < ((mH σ a).2 : Nat) ∧ σ' = mwL σ a i.toNat x := by
  unfold sL at h
  split at h
  · rename_i c
    exact ⟨c.1, c.2.1, c.2.2.1, c.2.2.2, (Option.some.inj h).symm⟩
  · cases h
def sB (σ : mS) (a : Nat) (i x : Int) : Option mS := if (((mH σ a).1 = 53 ∧ (x = 0 ∨ x = 1)) ∨ ((mH σ a).1 = 54 ∧ -128 ≤ x ∧ x < 128)) ∧ 0 ≤ i ∧ i < ((mH σ a).2 : Nat) then some (mwI σ a i.toNat x) else none
theorem sB_s {σ σ' : mS} {a : Nat} {i x : Int} (h : sB σ a i x = some σ') : (((mH σ a).1 = 53 ∧ (x = 0 ∨ x = 1)) ∨ ((mH σ a).1 = 54 ∧ -128 ≤ x ∧ x < 128)) ∧ 0 ≤ i ∧ i < ((mH σ a).2 : Nat) ∧ σ' = mwI σ a i.toNat x := by
  unfold sB at h
  split at h
  · rename_i c
    exact ⟨c.1, c.2.1, c.2.2, (Option.some.inj h).symm⟩
  · cases h
def sR (σ : mS) (a : Nat) (i : Int) (x : Nat) : Option mS := if (55 ≤ (mH σ a).1 ∧ (mH σ a).1 ≤ 58) ∧ (mH σ x).1 = mCT (mH σ a).1 ∧ 0 ≤ i ∧ i < ((mH σ a).2 : Nat) then some (mwR σ a i.toNat x) else none
theorem sR_s {σ σ' : mS} {a x : Nat} {i : Int} (h : sR σ a i x = some σ') : (55 ≤ (mH σ a).1 ∧ (mH σ a).1 ≤ 58) ∧ (mH σ x).1 = mCT (mH σ a).1 ∧ 0 ≤ i ∧ i < ((mH σ a).2 : Nat) ∧ σ' = mwR σ a i.toNat x := by
  unfold sR at h
  split at h
  · rename_i c
    exact ⟨c.1, c.2.1, c.2.2.1, c.2.2.2, (Option.some.inj h).symm⟩
  · cases h
def aLn (σ : mS) (a : Nat) : Option Int := if (mH σ a).1 = 51 ∧ (mH σ a).2 < 2147483648 then some ((mH σ a).2 : Nat) else none
theorem aLn_s {σ : mS} {a : Nat} {v : Int} (h : aLn σ a = some v) : (mH σ a).1 = 51 ∧ (mH σ a).2 < 2147483648 ∧ v = ((mH σ a).2 : Nat) := by
  unfold aLn at h
  split at h
  · rename_i c
    exact ⟨c.1, c.2, (Option.some.inj h).symm⟩
  · cases h
def nwO (σ : mS) (t n : Nat) : Option mS := if mF σ = 0 then some (mNew σ (t + 1) n) else none
theorem nwO_s {σ σ' : mS} {t n : Nat} (h : nwO σ t n = some σ') : mF σ = 0 ∧ σ' = mNew σ (t + 1) n := by
  unfold nwO at h
  split at h
  · exact ⟨by assumption, (Option.some.inj h).symm⟩
  · cases h
def nwA (σ : mS) (t : Nat) (x : Int) : Option mS := if mF σ = 0 ∧ 0 ≤ x ∧ x ≤ 100000 then some (mNew σ (51 + t) x.toNat) else none
theorem nwA_s {σ σ' : mS} {t : Nat} {x : Int} (h : nwA σ t x = some σ') : mF σ = 0 ∧ 0 ≤ x ∧ x ≤ 100000 ∧ σ' = mNew σ (51 + t) x.toNat := by
  unfold nwA at h
  split at h
  · rename_i c
    exact ⟨c.1, c.2.1, c.2.2, (Option.some.inj h).symm⟩
  · cases h
def cpI (σ : mS) (a b : Nat) (n : Int) : Option mS := if (mH σ a).1 = 51 ∧ (mH σ b).1 = 51 ∧ 32 ≤ a ∧ 32 ≤ b ∧ 0 ≤ n ∧ n ≤ ((mH σ a).2 : Nat) ∧ n ≤ ((mH σ b).2 : Nat) then some (mCpI σ a b n.toNat) else none
theorem cpI_s {σ σ' : mS} {a b : Nat} {n : Int} (h : cpI σ a b n = some σ') : ((mH σ a).1 = 51 ∧ (mH σ b).1 = 51 ∧ 32 ≤ a ∧ 32 ≤ b ∧ 0 ≤ n ∧ n ≤ ((mH σ a).2 : Nat) ∧ n ≤ ((mH σ b).2 : Nat)) ∧ σ' = mCpI σ a b n.toNat := by
  unfold cpI at h
  split at h
  · exact ⟨by assumption, (Option.some.inj h).symm⟩
  · cases h
def cpL (σ : mS) (a b : Nat) (n : Int) : Option mS := if (mH σ a).1 = 52 ∧ (mH σ b).1 = 52 ∧ 32 ≤ a ∧ 32 ≤ b ∧ 0 ≤ n ∧ n ≤ ((mH σ a).2 : Nat) ∧ n ≤ ((mH σ b).2 : Nat) then some (mCpL σ a b n.toNat) else none
theorem cpL_s {σ σ' : mS} {a b : Nat} {n : Int} (h : cpL σ a b n = some σ') : ((mH σ a).1 = 52 ∧ (mH σ b).1 = 52 ∧ 32 ≤ a ∧ 32 ≤ b ∧ 0 ≤ n ∧ n ≤ ((mH σ a).2 : Nat) ∧ n ≤ ((mH σ b).2 : Nat)) ∧ σ' = mCpL σ a b n.toNat := by
  unfold cpL at h
  split at h
  · exact ⟨by assumption, (Option.some.inj h).symm⟩
  · cases h
def dvO (x y : Int) : Option Int := if y = 0 then none else some (mdiv x y)
theorem dvO_s {x y v : Int} (h : dvO x y = some v) : y ≠ 0 ∧ v = mdiv x y := by
  unfold dvO at h
  split at h
  · cases h
  · exact ⟨by assumption, (Option.some.inj h).symm⟩
/-- a boolean answer -/
def bO (x : Int) : Option Int := if x = 0 ∨ x = 1 then some x else none
theorem bO_s {x v : Int} (h : bO x = some v) : (x = 0 ∨ x = 1) ∧ v = x := by
  unfold bO at h
  split at h
  · exact ⟨by assumption, (Option.some.inj h).symm⟩
  · cases h
def mFU : Nat := 1000000
