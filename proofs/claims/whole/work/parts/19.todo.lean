/-! rows still open: rows of rows, texts -/
def mMul (σ : mS) (tg ug n k : Nat) : mS := ((σ.1.1 + 1 + n, σ.1.2.1 + n + n * k, σ.1.2.2.1 + 1 + n, σ.1.2.2.2),
  (fun b => if b = 16 + σ.1.2.2.1 then (tg, n) else if 16 + σ.1.2.2.1 < b ∧ b ≤ 16 + σ.1.2.2.1 + n then (ug, k) else σ.2.1 b),
  (fun b j => if 16 + σ.1.2.2.1 ≤ b ∧ b ≤ 16 + σ.1.2.2.1 + n then 0 else σ.2.2.1 b j), (fun b j => if 16 + σ.1.2.2.1 ≤ b ∧ b ≤ 16 + σ.1.2.2.1 + n then 0 else σ.2.2.2.1 b j),
  (fun b j => if b = 16 + σ.1.2.2.1 then (if j < n then 16 + σ.1.2.2.1 + 1 + j else 0) else if 16 + σ.1.2.2.1 < b ∧ b ≤ 16 + σ.1.2.2.1 + n then 0 else σ.2.2.2.2 b j))
def nwM (σ : mS) (t u : Nat) (n k : Int) : Option mS := if mF σ = 0 ∧ 0 ≤ n ∧ 0 ≤ k ∧ n ≤ 10000 ∧ k ≤ 10000 then some (mMul σ (51 + t) (51 + u) n.toNat k.toNat) else none
theorem ew_mnew {G : mG} {M : mM} {pc idx : Nat} {lo : List (Nat × mV)} {st : List mV} {σ σ' τ : mS} {r : mX} (t u : Nat) {ty : FieldType} {n k : Int} (d : decode (mCo M) pc = .ok (.multianewarray idx 2, 4)) (ht : mAT[t]? = some (.array ty)) (hu : mAT[u]? = some ty) (hl : Cond.classLink (mOw M) idx ("[" ++ (FieldType.array ty).toString) ∈ mW0) (hov : Cond.arrayOver (.array ty) ∈ lw_tbl) (hw : Cond.arrayClass ty ∈ mW0)
    (g : nwM σ t u n k = some σ') (kk : Ev G M (pc + 4) lo (vr (16 + mN σ) :: st) σ' r τ) : Ev G M pc lo (vi k :: vi n :: st) σ r τ := by
  sorry
/-- the texts, by their places from 2 on -/
def mStr : List (List Int) := [[98, 101, 102, 111, 114, 101], [115, 97, 109, 101], [97, 102, 116, 101, 114], [117, 110, 116, 105, 108], [111, 114, 100, 101, 114], [108, 97, 115, 116, 115], [99, 117, 114, 118, 101], [115, 97, 109, 112, 108, 101], [114, 105, 110, 103, 115], [112, 104, 97, 115, 101], [115, 105, 103, 109, 97], [114, 101, 115, 101, 114, 118, 101]]
def sLn (a : Nat) : Option Int := if 2 ≤ a ∧ a < 14 then some ((mStr.getD (a - 2) []).length : Nat) else none
def sCh (a : Nat) (i : Int) : Option Int := if 2 ≤ a ∧ a < 14 ∧ 0 ≤ i ∧ i < ((mStr.getD (a - 2) []).length : Nat) then some ((mStr.getD (a - 2) []).getD i.toNat 0) else none
def mStrT : List String := ["before", "same", "after", "until", "order", "lasts", "curve", "sample", "rings", "phase", "sigma", "reserve"]
theorem ew_lds {G : mG} {M : mM} {pc idx : Nat} {lo : List (Nat × mV)} {st : List mV} {σ τ : mS} {r : mX} (j : Nat) {text : String} (d : decode (mCo M) pc = .ok (.ldc idx, 2)) (hj : mStrT[j]? = some text) (hw : Cond.stringRef (mOw M) idx text ∈ lw_tbl) (kk : Ev G M (pc + 2) lo (vr (2 + j) :: st) σ r τ) : Ev G M pc lo st σ r τ := by
  sorry
theorem ew_ldsw {G : mG} {M : mM} {pc idx : Nat} {lo : List (Nat × mV)} {st : List mV} {σ τ : mS} {r : mX} (j : Nat) {text : String} (d : decode (mCo M) pc = .ok (.ldc_w idx, 3)) (hj : mStrT[j]? = some text) (hw : Cond.stringRef (mOw M) idx text ∈ lw_tbl) (kk : Ev G M (pc + 3) lo (vr (2 + j) :: st) σ r τ) : Ev G M pc lo st σ r τ := by
  sorry
theorem ew_slen {G : mG} {M : mM} {pc idx a : Nat} {lo : List (Nat × mV)} {st : List mV} {σ τ : mS} {r : mX} {v : Int} (d : decode (mCo M) pc = .ok (.invokevirtual idx, 3)) (hl : Cond.methodLink (mOw M) idx yJ0_length_8abf5 ∈ mW0) (g : sLn a = some v) (kk : Ev G M (pc + 3) lo (vi v :: st) σ r τ) : Ev G M pc lo (vr a :: st) σ r τ := by
  sorry
theorem ew_schar {G : mG} {M : mM} {pc idx a : Nat} {lo : List (Nat × mV)} {st : List mV} {σ τ : mS} {r : mX} {i v : Int} (d : decode (mCo M) pc = .ok (.invokevirtual idx, 3)) (hl : Cond.methodLink (mOw M) idx yJ0_charAt_5068e ∈ mW0) (g : sCh a i = some v) (kk : Ev G M (pc + 3) lo (vi v :: st) σ r τ) : Ev G M pc lo (vi i :: vr a :: st) σ r τ := by
  sorry
