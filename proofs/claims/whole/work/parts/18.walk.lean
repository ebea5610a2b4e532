/-! the rows as the walker writes them: over what the told functions answer -/
def mRsI : Int ⊕ Nat → mX
  | .inl v => .inl (some (vi v))
  | .inr E => .inr E
def mRsL : BitVec 64 ⊕ Nat → mX
  | .inl v => .inl (some (vl v))
  | .inr E => .inr E
def mRsU : Unit ⊕ Nat → mX
  | .inl _ => .inl none
  | .inr E => .inr E
def tgO (σ : mS) (a t : Nat) : Option Unit := if (mH σ a).1 = t + 1 then some () else none
theorem tgO_s {σ : mS} {a t : Nat} {u : Unit} (h : tgO σ a t = some u) : (mH σ a).1 = t + 1 := by
  unfold tgO at h
  split at h
  · assumption
  · cases h
def tgN (a : Nat) : Option Unit := if a = 0 then none else some ()
theorem tgN_s {a : Nat} {u : Unit} (h : tgN a = some u) : a ≠ 0 := by
  unfold tgN at h
  split at h
  · cases h
  · assumption
section EW
variable {G : mG} {M : mM} {pc idx a b : Nat} {lo : List (Nat × mV)} {st : List mV} {σ σ' τ : mS} {r : mX} {C : String} {T : u_T} {N : Nat}
theorem ew_getI (t k : Nat) {v : Int} (d : decode (mCo M) pc = .ok (.getfield idx, 3)) (hc : vwCl[t]? = some (C, T, N)) (hk : k < N) (hl : Cond.fieldLink (mOw M) idx (T k).1 (T k).2.1 (T k).2.2.1 ∈ mW0) (hin : ∀ w ∈ u_ws C T N, w ∈ mW0) (hty : mKd (mTY t k) = 0) (g : gI σ a t k = some v) (kk : Ev G M (pc + 3) lo (vi v :: st) σ r τ) : Ev G M pc lo (vr a :: st) σ r τ := by
  obtain ⟨g1, rfl⟩ := gI_s g
  exact ev_getI t k d hc hk hl hin hty g1 kk
theorem ew_getR (t k : Nat) {v : Nat} (d : decode (mCo M) pc = .ok (.getfield idx, 3)) (hc : vwCl[t]? = some (C, T, N)) (hk : k < N) (hl : Cond.fieldLink (mOw M) idx (T k).1 (T k).2.1 (T k).2.2.1 ∈ mW0) (hin : ∀ w ∈ u_ws C T N, w ∈ mW0) (hty : mKd (mTY t k) = 2) (g : gR σ a t k = some v) (kk : Ev G M (pc + 3) lo (vr v :: st) σ r τ) : Ev G M pc lo (vr a :: st) σ r τ := by
  obtain ⟨g1, rfl⟩ := gR_s g
  exact ev_getR t k d hc hk hl hin hty g1 kk
theorem ew_putI (t k : Nat) {x : Int} (d : decode (mCo M) pc = .ok (.putfield idx, 3)) (hc : vwCl[t]? = some (C, T, N)) (hk : k < N) (hl : Cond.fieldLink (mOw M) idx (T k).1 (T k).2.1 (T k).2.2.1 ∈ mW0) (hin : ∀ w ∈ u_ws C T N, w ∈ mW0) (hdd : ∀ j, j < N → parseFieldDescriptor (T j).2.2.1 = some (mTY t j)) (hnm : ∀ a, a < N → ∀ b, b < N → a ≠ b → (T a).2.1 ≠ (T b).2.1)
    (hfin : (T k).2.2.2 = false ∨ ((mNm M).name = "<init>" ∧ (T k).1 = mOw M)) (hty : mTY t k = .int) (g : pI σ a t k x = some σ') (kk : Ev G M (pc + 3) lo st σ' r τ) : Ev G M pc lo (vi x :: vr a :: st) σ r τ := by
  obtain ⟨g1, rfl⟩ := pI_s g
  exact ev_putI t k d hc hk hl hin hdd hnm hfin (Or.inl hty) g1 kk
theorem ew_putB (t k : Nat) {x : Int} (d : decode (mCo M) pc = .ok (.putfield idx, 3)) (hc : vwCl[t]? = some (C, T, N)) (hk : k < N) (hl : Cond.fieldLink (mOw M) idx (T k).1 (T k).2.1 (T k).2.2.1 ∈ mW0) (hin : ∀ w ∈ u_ws C T N, w ∈ mW0) (hdd : ∀ j, j < N → parseFieldDescriptor (T j).2.2.1 = some (mTY t j)) (hnm : ∀ a, a < N → ∀ b, b < N → a ≠ b → (T a).2.1 ≠ (T b).2.1)
    (hfin : (T k).2.2.2 = false ∨ ((mNm M).name = "<init>" ∧ (T k).1 = mOw M)) (hty : mTY t k = .boolean) (g : pB σ a t k x = some σ') (kk : Ev G M (pc + 3) lo st σ' r τ) : Ev G M pc lo (vi x :: vr a :: st) σ r τ := by
  obtain ⟨g1, g2, rfl⟩ := pB_s g
  exact ev_putI t k d hc hk hl hin hdd hnm hfin (Or.inr ⟨hty, g2⟩) g1 kk
theorem ew_putR (t k : Nat) {x : Nat} (d : decode (mCo M) pc = .ok (.putfield idx, 3)) (hc : vwCl[t]? = some (C, T, N)) (hk : k < N) (hl : Cond.fieldLink (mOw M) idx (T k).1 (T k).2.1 (T k).2.2.1 ∈ mW0) (hin : ∀ w ∈ u_ws C T N, w ∈ mW0) (hdd : ∀ j, j < N → parseFieldDescriptor (T j).2.2.1 = some (mTY t j)) (hnm : ∀ a, a < N → ∀ b, b < N → a ≠ b → (T a).2.1 ≠ (T b).2.1)
    (hfin : (T k).2.2.2 = false ∨ ((mNm M).name = "<init>" ∧ (T k).1 = mOw M)) (hty : mKd (mTY t k) = 2) (g : pR σ a t k x = some σ') (kk : Ev G M (pc + 3) lo st σ' r τ) : Ev G M pc lo (vr x :: vr a :: st) σ r τ := by
  obtain ⟨g1, rfl⟩ := pR_s g
  exact ev_putR t k d hc hk hl hin hdd hnm hfin hty g1 kk
theorem ew_iald {i v : Int} (d : decode (mCo M) pc = .ok (.iaload, 1)) (g : lI σ a i = some v) (kk : Ev G M (pc + 1) lo (vi v :: st) σ r τ) : Ev G M pc lo (vi i :: vr a :: st) σ r τ := by
  obtain ⟨g1, g2, g3, rfl⟩ := lI_s g
  exact ev_iald d g1 g2 g3 kk
theorem ew_lald {i : Int} {v : BitVec 64} (d : decode (mCo M) pc = .ok (.laload, 1)) (g : lL σ a i = some v) (kk : Ev G M (pc + 1) lo (vl v :: st) σ r τ) : Ev G M pc lo (vi i :: vr a :: st) σ r τ := by
  obtain ⟨g1, g2, g3, rfl⟩ := lL_s g
  exact ev_lald d g1 g2 g3 kk
theorem ew_bald {i v : Int} (d : decode (mCo M) pc = .ok (.baload, 1)) (g : lB σ a i = some v) (kk : Ev G M (pc + 1) lo (vi v :: st) σ r τ) : Ev G M pc lo (vi i :: vr a :: st) σ r τ := by
  obtain ⟨g1, g2, g3, rfl⟩ := lB_s g
  exact ev_bald d g1 g2 g3 kk
theorem ew_aald {i : Int} {v : Nat} (d : decode (mCo M) pc = .ok (.aaload, 1)) (g : lR σ a i = some v) (kk : Ev G M (pc + 1) lo (vr v :: st) σ r τ) : Ev G M pc lo (vi i :: vr a :: st) σ r τ := by
  obtain ⟨g1, g2, g3, rfl⟩ := lR_s g
  exact ev_aald d g1 g2 g3 kk
theorem ew_alen {v : Int} (d : decode (mCo M) pc = .ok (.arraylength, 1)) (g : aLn σ a = some v) (kk : Ev G M (pc + 1) lo (vi v :: st) σ r τ) : Ev G M pc lo (vr a :: st) σ r τ := by
  obtain ⟨g1, g2, rfl⟩ := aLn_s g
  exact ev_alen d g1 g2 kk
theorem ew_iast {i x : Int} (d : decode (mCo M) pc = .ok (.iastore, 1)) (g : sI σ a i x = some σ') (kk : Ev G M (pc + 1) lo st σ' r τ) : Ev G M pc lo (vi x :: vi i :: vr a :: st) σ r τ := by
  obtain ⟨g1, g2, g3, g4, rfl⟩ := sI_s g
  exact ev_iast d g1 g2 g3 g4 kk
theorem ew_last {i : Int} {x : BitVec 64} (d : decode (mCo M) pc = .ok (.lastore, 1)) (g : sL σ a i x = some σ') (kk : Ev G M (pc + 1) lo st σ' r τ) : Ev G M pc lo (vl x :: vi i :: vr a :: st) σ r τ := by
  obtain ⟨g1, g2, g3, g4, rfl⟩ := sL_s g
  exact ev_last d g1 g2 g3 g4 kk
theorem ew_bast {i x : Int} (d : decode (mCo M) pc = .ok (.bastore, 1)) (g : sB σ a i x = some σ') (kk : Ev G M (pc + 1) lo st σ' r τ) : Ev G M pc lo (vi x :: vi i :: vr a :: st) σ r τ := by
  obtain ⟨g1, g2, g3, rfl⟩ := sB_s g
  exact ev_bast d g1 g2 g3 kk
theorem ew_aast {i : Int} {x : Nat} (d : decode (mCo M) pc = .ok (.aastore, 1)) (g : sR σ a i x = some σ') (kk : Ev G M (pc + 1) lo st σ' r τ) : Ev G M pc lo (vr x :: vi i :: vr a :: st) σ r τ := by
  obtain ⟨g1, g2, g3, g4, rfl⟩ := sR_s g
  exact ev_aast d g1 g2 g3 g4 kk
theorem ew_idiv {x y v : Int} (d : decode (mCo M) pc = .ok (.idiv, 1)) (g : dvO x y = some v) (kk : Ev G M (pc + 1) lo (vi v :: st) σ r τ) : Ev G M pc lo (vi y :: vi x :: st) σ r τ := by
  obtain ⟨g1, rfl⟩ := dvO_s g
  exact ev_idiv d g1 kk
theorem ew_new (t : Nat) (d : decode (mCo M) pc = .ok (.new idx, 3)) (hc : vwCl[t]? = some (C, T, N)) (hin : ∀ w ∈ u_ws C T N, w ∈ mW0) (hdd : ∀ j, j < N → parseFieldDescriptor (T j).2.2.1 = some (mTY t j)) (hdv : ∀ j, j < N → defaultValue (mTY t j) = mDv (mTY t j)) (hl : Cond.classLink (mOw M) idx C ∈ mW0) (hins : Cond.instantiable C N ∈ mW0) (hini : Cond.initialized C ∈ mW0)
    (g : nwO σ t N = some σ') (kk : Ev G M (pc + 3) lo (vr (32 + mN σ) :: st) σ' r τ) : Ev G M pc lo st σ r τ := by
  obtain ⟨g1, rfl⟩ := nwO_s g
  exact ev_new d hc hin hdd hdv hl hins hini g1 kk
theorem ew_newa (t : Nat) {at9 : ArrayType} {ty : FieldType} {x : Int} (d : decode (mCo M) pc = .ok (.newarray at9, 2)) (hty : newarray.typeOf at9 = ty) (ht : mAT[t]? = some ty) (hdv : defaultValue ty = mDv ty) (hcb : componentBytes ty ≤ 8) (hw : Cond.arrayClass ty ∈ mW0)
    (g : nwA σ t x = some σ') (kk : Ev G M (pc + 2) lo (vr (32 + mN σ) :: st) σ' r τ) : Ev G M pc lo (vi x :: st) σ r τ := by
  obtain ⟨g1, g2, g3, rfl⟩ := nwA_s g
  exact ev_newa d hty ht hdv hcb hw g1 g2 g3 kk
theorem ew_anew (t : Nat) {C : String} {x : Int} (d : decode (mCo M) pc = .ok (.anewarray idx, 3)) (ht : mAT[t]? = some (.object C)) (hl : Cond.classLink (mOw M) idx C ∈ mW0) (hov : Cond.arrayOver (.object C) ∈ lw_tbl)
    (g : nwA σ t x = some σ') (kk : Ev G M (pc + 3) lo (vr (32 + mN σ) :: st) σ' r τ) : Ev G M pc lo (vi x :: st) σ r τ := by
  obtain ⟨g1, g2, g3, rfl⟩ := nwA_s g
  exact ev_anew d ht hl hov g1 g2 g3 kk
theorem ew_copyI {n : Int} (d : decode (mCo M) pc = .ok (.invokestatic idx, 3)) (hl : Cond.methodLink (mOw M) idx arraycopyName ∈ mW0) (hnt : Cond.native arraycopyName ∈ mW0) (hst : Cond.static arraycopyName ∈ mW0) (hini : Cond.initialized "java/lang/System" ∈ mW0) (hf : 1 ≤ mRf M) (hlo : 60 ≤ mRl M) (h8 : mSt8 st)
    (g : cpI σ a b n = some σ') (kk : Ev G M (pc + 3) lo st σ' r τ) : Ev G M pc lo (vi n :: vi 0 :: vr b :: vi 0 :: vr a :: st) σ r τ := by
  obtain ⟨⟨g1, g2, g3, g4, g5, g6, g7⟩, rfl⟩ := cpI_s g
  exact ev_copyI d hl hnt hst hini hf hlo h8 g1 g2 g3 g4 g5 g6 g7 kk
theorem ew_copyL {n : Int} (d : decode (mCo M) pc = .ok (.invokestatic idx, 3)) (hl : Cond.methodLink (mOw M) idx arraycopyName ∈ mW0) (hnt : Cond.native arraycopyName ∈ mW0) (hst : Cond.static arraycopyName ∈ mW0) (hini : Cond.initialized "java/lang/System" ∈ mW0) (hf : 1 ≤ mRf M) (hlo : 60 ≤ mRl M) (h8 : mSt8 st)
    (g : cpL σ a b n = some σ') (kk : Ev G M (pc + 3) lo st σ' r τ) : Ev G M pc lo (vi n :: vi 0 :: vr b :: vi 0 :: vr a :: st) σ r τ := by
  obtain ⟨⟨g1, g2, g3, g4, g5, g6, g7⟩, rfl⟩ := cpL_s g
  exact ev_copyL d hl hnt hst hini hf hlo h8 g1 g2 g3 g4 g5 g6 g7 kk
theorem ew_objInit {u : Unit} (d : decode (mCo M) pc = .ok (.invokespecial idx, 3)) (hl : Cond.methodLink (mOw M) idx Lib.objectInit ∈ mW0) (hi : Cond.instanceMethod Lib.objectInit ∈ mW0) (hc : Cond.code Lib.objectInit ⟨#[0xb1]⟩ 1 none ∈ mW0) (hf : 1 ≤ mRf M) (h8 : mSt8 st) (hlo : 20 ≤ mRl M) (g : tgN a = some u) (k : Ev G M (pc + 3) lo st σ r τ) : Ev G M pc lo (vr a :: st) σ r τ :=
  ev_objInit d hl hi hc (tgN_s g) hf h8 hlo k
theorem ew_retb {x v : Int} (d : decode (mCo M) pc = .ok (mRi M, 1)) (hrt : mRt M = some .boolean) (g : bO x = some v) : Ev G M pc lo [vi x] σ (.inl (some (vi v))) σ := by
  obtain ⟨g1, rfl⟩ := bO_s g
  exact ev_ret (some (vi v)) d (by rw [hrt]; exact g1)
end EW
section EC
variable {G : mG} {M M' : mM} {pc idx n a t : Nat} {C : String} {T : u_T} {N : Nat} {lo : List (Nat × mV)} {as rest : List mV} {σ σ1 τ : mS} {r : mX} {v : mV} {u : Unit}
theorem ew_callVv (d : decode (mCo M) pc = .ok (.invokevirtual idx, 3)) (hV : mVi M' n) (hl : Cond.methodLink (mOw M) idx (mNm M') ∈ mW0) (hn : as.length = n) (h8 : mSt8 rest) (hc : vwCl[t]? = some (C, T, N)) (hC : C = (mNm M').cls) (g : tgO σ a t = some u) (hf : mRf M' + 1 ≤ mRf M) (hlo : 19 + mNl M' + mRl M' ≤ mRl M) (hct : Ct G M' (vr a :: as) σ (.inl (some v)) σ1)
    (kk : Ev G M (pc + 3) lo (v :: rest) σ1 r τ) : Ev G M pc lo (as.reverse ++ vr a :: rest) σ r τ := ev_callV (v := some v) d hV hl hn h8 hc hC (tgO_s g) hf hlo hct kk
theorem ew_callV0 (d : decode (mCo M) pc = .ok (.invokevirtual idx, 3)) (hV : mVi M' n) (hl : Cond.methodLink (mOw M) idx (mNm M') ∈ mW0) (hn : as.length = n) (h8 : mSt8 rest) (hc : vwCl[t]? = some (C, T, N)) (hC : C = (mNm M').cls) (g : tgO σ a t = some u) (hf : mRf M' + 1 ≤ mRf M) (hlo : 19 + mNl M' + mRl M' ≤ mRl M) (hct : Ct G M' (vr a :: as) σ (.inl none) σ1)
    (kk : Ev G M (pc + 3) lo rest σ1 r τ) : Ev G M pc lo (as.reverse ++ vr a :: rest) σ r τ := ev_callV (v := none) d hV hl hn h8 hc hC (tgO_s g) hf hlo hct kk
theorem ew_callSv (d : decode (mCo M) pc = .ok (.invokestatic idx, 3)) (hV : mVs M' n) (hl : Cond.methodLink (mOw M) idx (mNm M') ∈ mW0) (hn : as.length = n) (h8 : mSt8 rest) (hf : mRf M' + 1 ≤ mRf M) (hlo : 19 + mNl M' + mRl M' ≤ mRl M) (hct : Ct G M' as σ (.inl (some v)) σ1)
    (kk : Ev G M (pc + 3) lo (v :: rest) σ1 r τ) : Ev G M pc lo (as.reverse ++ rest) σ r τ := ev_callS (v := some v) d hV hl hn h8 hf hlo hct kk
theorem ew_callS0 (d : decode (mCo M) pc = .ok (.invokestatic idx, 3)) (hV : mVs M' n) (hl : Cond.methodLink (mOw M) idx (mNm M') ∈ mW0) (hn : as.length = n) (h8 : mSt8 rest) (hf : mRf M' + 1 ≤ mRf M) (hlo : 19 + mNl M' + mRl M' ≤ mRl M) (hct : Ct G M' as σ (.inl none) σ1)
    (kk : Ev G M (pc + 3) lo rest σ1 r τ) : Ev G M pc lo (as.reverse ++ rest) σ r τ := ev_callS (v := none) d hV hl hn h8 hf hlo hct kk
theorem ew_callSHv {hh : List (Nat × Nat × Nat × Nat)} (d : decode (mCo M) pc = .ok (.invokestatic idx, 3)) (hV : mVh M' n hh) (hl : Cond.methodLink (mOw M) idx (mNm M') ∈ mW0) (hn : as.length = n) (h8 : mSt8 rest) (hf : mRf M' + 1 ≤ mRf M) (hlo : 19 + mNl M' + mRl M' ≤ mRl M) (hct : Ct G M' as σ (.inl (some v)) σ1)
    (kk : Ev G M (pc + 3) lo (v :: rest) σ1 r τ) : Ev G M pc lo (as.reverse ++ rest) σ r τ := ev_callSH (v := some v) d hV hl hn h8 hf hlo hct kk
theorem ew_callI (d : decode (mCo M) pc = .ok (.invokespecial idx, 3)) (hV : mVc M' n) (hl : Cond.methodLink (mOw M) idx (mNm M') ∈ mW0) (hn : as.length = n) (h8 : mSt8 rest) (g : tgN a = some u) (hf : mRf M' + 1 ≤ mRf M) (hlo : 19 + mNl M' + mRl M' ≤ mRl M) (hct : Ct G M' (vr a :: as) σ (.inl none) σ1)
    (kk : Ev G M (pc + 3) lo rest σ1 r τ) : Ev G M pc lo (as.reverse ++ vr a :: rest) σ r τ := ev_callI d hV hl hn h8 (tgN_s g) hf hlo hct kk
theorem ew_callIN {host : String} (d : decode (mCo M) pc = .ok (.invokespecial idx, 3)) (hV : mVc M' n) (hl : Cond.methodLinkNest (mOw M) idx (mNm M') host ∈ lw_tbl) (hn : as.length = n) (h8 : mSt8 rest) (g : tgN a = some u) (hf : mRf M' + 1 ≤ mRf M) (hlo : 19 + mNl M' + mRl M' ≤ mRl M) (hct : Ct G M' (vr a :: as) σ (.inl none) σ1)
    (kk : Ev G M (pc + 3) lo rest σ1 r τ) : Ev G M pc lo (as.reverse ++ vr a :: rest) σ r τ := ev_callIN d hV hl hn h8 (tgN_s g) hf hlo hct kk
end EC
