/-! rows of the mini logic: places, stack, numbers, branches -/
theorem ok_c {v : mV} {st : List mV} (h : mOk v) (hs : ∀ w ∈ st, mOk w) : ∀ w ∈ v :: st, mOk w := List.forall_mem_cons.2 ⟨h, hs⟩
theorem ok_t {v : mV} {st : List mV} (h : ∀ w ∈ v :: st, mOk w) : ∀ w ∈ st, mOk w := (List.forall_mem_cons.1 h).2
theorem ok_h {v : mV} {st : List mV} (h : ∀ w ∈ v :: st, mOk w) : mOk v := (List.forall_mem_cons.1 h).1
theorem ok_r {a : Nat} : mOk (vr a) := trivial
theorem ok_l {w : BitVec 64} : mOk (vl w) := trivial
theorem ok_i (i : Int32) : mOk (vi i.toInt) := oi_in i
theorem ok_w (x : Int) : mOk (vi (mw x)) := mw_in x
theorem tv_i (G : mG) (x : Int) : tv G (vi x) = .int (Int32.ofInt x) := rfl
theorem tv_l (G : mG) (w : BitVec 64) : tv G (vl w) = .long (Int64.ofBitVec w) := rfl
theorem tv_0 (G : mG) : tv G (vr 0) = .null := rfl
theorem tv_r (G : mG) {a : Nat} (h : a ≠ 0) : tv G (vr a) = .ref (mAD G a) := if_neg h
def mCat : mV → Nat
  | .inr (.inr _) => 2
  | _ => 1
theorem tv_cat (G : mG) (v : mV) : (tv G v).category = mCat v := by
  rcases v with x | a | w
  · rfl
  · show (if a = 0 then Value.null else Value.ref (mAD G a)).category = 1
    split <;> rfl
  · rfl
theorem lo_at {G : mG} {ls : Array Slot} {nL : Nat} {lo : List (Nat × mV)} (hl : lv_has ls nL (lo.map fun q => (q.1, tv G q.2))) {j i : Nat} {v : mV} (h : lo[j]? = some (i, v)) : ls[i]? = some (.val (tv G v)) :=
  lv_at hl j (by rw [List.getElem?_map, h]; rfl)
theorem lo_ok {lo : List (Nat × mV)} {j i : Nat} {v : mV} (h : lo[j]? = some (i, v)) (ho : ∀ q ∈ lo, mOk q.2) : mOk v := ho (i, v) (List.mem_of_getElem? h)
def mK1 (i : Nat) (q : Nat × mV) : Bool := !(q.1 == i) && !(q.1 + 1 == i && mCat q.2 == 2)
def mK2 (i : Nat) (q : Nat × mV) : Bool := !(q.1 == i) && (!(q.1 == i + 1) && !(q.1 + 1 == i && mCat q.2 == 2))
theorem lo_set1 (G : mG) (lo : List (Nat × mV)) (i : Nat) (v : mV) : (i, tv G v) :: (lo.map fun q => (q.1, tv G q.2)).filter (fun q => !(q.1 == i) && !(q.1 + 1 == i && q.2.category == 2)) = ((i, v) :: lo.filter (mK1 i)).map fun q => (q.1, tv G q.2) := by
  rw [List.map_cons, List.filter_map]
  congr 2
  apply List.filter_congr
  intro q _
  simp only [Function.comp, mK1, tv_cat]
theorem lo_set2 (G : mG) (lo : List (Nat × mV)) (i : Nat) (v : mV) : (i, tv G v) :: (lo.map fun q => (q.1, tv G q.2)).filter (fun q => !(q.1 == i) && (!(q.1 == i + 1) && !(q.1 + 1 == i && q.2.category == 2))) = ((i, v) :: lo.filter (mK2 i)).map fun q => (q.1, tv G q.2) := by
  rw [List.map_cons, List.filter_map]
  congr 2
  apply List.filter_congr
  intro q _
  simp only [Function.comp, mK2, tv_cat]
theorem ok_s {lo : List (Nat × mV)} {i : Nat} {v : mV} {f : Nat × mV → Bool} (hv : mOk v) (ho : ∀ q ∈ lo, mOk q.2) : ∀ q ∈ (i, v) :: lo.filter f, mOk q.2 := by
  intro q hq
  rcases List.mem_cons.mp hq with rfl | h
  · exact hv
  · exact ho q (List.mem_filter.mp h).1

theorem ev_iconst {G : mG} {M : mM} {pc : Nat} {lo : List (Nat × mV)} {st : List mV} {σ τ : mS} {r : mX} {n : Int} (d : decode (mCo M) pc = .ok (.iconst n, 1)) (hn : mIn n) (k : Ev G M (pc + 1) lo (vi n :: st) σ r τ) : Ev G M pc lo st σ r τ :=
  Ev.step (fun a b => ⟨ok_c (v := vi n) hn a, b⟩) (fun p l e R s m args below meth c H locs cells slots Q ls hF hZ hl hst hlo kk => lv_iconst hF.1 hF.2.1 d rfl (kk ls hl)) k
theorem ev_bipush {G : mG} {M : mM} {pc : Nat} {lo : List (Nat × mV)} {st : List mV} {σ τ : mS} {r : mX} {n : Int} (d : decode (mCo M) pc = .ok (.bipush n, 2)) (hv : (Int8.ofInt n).toInt32 = Int32.ofInt n) (hn : mIn n) (k : Ev G M (pc + 2) lo (vi n :: st) σ r τ) : Ev G M pc lo st σ r τ :=
  Ev.step (fun a b => ⟨ok_c (v := vi n) hn a, b⟩) (fun p l e R s m args below meth c H locs cells slots Q ls hF hZ hl hst hlo kk => lv_bipush hF.1 hF.2.1 d hv (kk ls hl)) k
theorem ev_sipush {G : mG} {M : mM} {pc : Nat} {lo : List (Nat × mV)} {st : List mV} {σ τ : mS} {r : mX} {n : Int} (d : decode (mCo M) pc = .ok (.sipush n, 3)) (hv : (Int16.ofInt n).toInt32 = Int32.ofInt n) (hn : mIn n) (k : Ev G M (pc + 3) lo (vi n :: st) σ r τ) : Ev G M pc lo st σ r τ :=
  Ev.step (fun a b => ⟨ok_c (v := vi n) hn a, b⟩) (fun p l e R s m args below meth c H locs cells slots Q ls hF hZ hl hst hlo kk => lv_sipush hF.1 hF.2.1 d hv (kk ls hl)) k
theorem ev_lconst {G : mG} {M : mM} {pc : Nat} {lo : List (Nat × mV)} {st : List mV} {σ τ : mS} {r : mX} {n : Fin 2} {w : BitVec 64} (d : decode (mCo M) pc = .ok (.lconst n, 1)) (hv : Int64.ofNat (n : Nat) = Int64.ofBitVec w) (k : Ev G M (pc + 1) lo (vl w :: st) σ r τ) : Ev G M pc lo st σ r τ :=
  Ev.step (fun a b => ⟨ok_c ok_l a, b⟩) (fun p l e R s m args below meth c H locs cells slots Q ls hF hZ hl hst hlo kk => lv_lconst hF.1 hF.2.1 d hv (kk ls hl)) k
theorem ev_ldc {G : mG} {M : mM} {pc : Nat} {lo : List (Nat × mV)} {st : List mV} {σ τ : mS} {r : mX} {i : Nat} {n : Int} (d : decode (mCo M) pc = .ok (.ldc i, 2)) (hc : Cond.constant (mOw M) i (Int32.ofInt n) ∈ mWs M) (hn : mIn n) (k : Ev G M (pc + 2) lo (vi n :: st) σ r τ) : Ev G M pc lo st σ r τ :=
  Ev.step (fun a b => ⟨ok_c (v := vi n) hn a, b⟩) (fun p l e R s m args below meth c H locs cells slots Q ls hF hZ hl hst hlo kk => lv_ldc hF.1 hF.2.1 hF.2.2.2.1 (hF.2.2.2.2.1 _ hc) d (kk ls hl)) k
theorem ev_ldcw {G : mG} {M : mM} {pc : Nat} {lo : List (Nat × mV)} {st : List mV} {σ τ : mS} {r : mX} {i : Nat} {n : Int} (d : decode (mCo M) pc = .ok (.ldc_w i, 3)) (hc : Cond.constant (mOw M) i (Int32.ofInt n) ∈ mWs M) (hn : mIn n) (k : Ev G M (pc + 3) lo (vi n :: st) σ r τ) : Ev G M pc lo st σ r τ :=
  Ev.step (fun a b => ⟨ok_c (v := vi n) hn a, b⟩) (fun p l e R s m args below meth c H locs cells slots Q ls hF hZ hl hst hlo kk => lv_ldcw hF.1 hF.2.1 hF.2.2.2.1 (hF.2.2.2.2.1 _ hc) d (kk ls hl)) k
theorem ev_ldc2 {G : mG} {M : mM} {pc : Nat} {lo : List (Nat × mV)} {st : List mV} {σ τ : mS} {r : mX} {i : Nat} {w : BitVec 64} (d : decode (mCo M) pc = .ok (.ldc2_w i, 3)) (hc : Cond.constantLong (mOw M) i (Int64.ofBitVec w) ∈ mWs M) (k : Ev G M (pc + 3) lo (vl w :: st) σ r τ) : Ev G M pc lo st σ r τ :=
  Ev.step (fun a b => ⟨ok_c ok_l a, b⟩) (fun p l e R s m args below meth c H locs cells slots Q ls hF hZ hl hst hlo kk => lv_ldc2 hF.1 hF.2.1 hF.2.2.2.1 (hF.2.2.2.2.1 _ hc) d (kk ls hl)) k
theorem ev_iload_n {G : mG} {M : mM} {pc : Nat} {lo : List (Nat × mV)} {st : List mV} {σ τ : mS} {r : mX} {k0 : Fin 4} {i : Nat} {x : Int} (d : decode (mCo M) pc = .ok (.iload_n k0, 1)) (j : Nat) (hi : (k0 : Nat) = i) (h : lo[j]? = some (i, vi x)) (k : Ev G M (pc + 1) lo (vi x :: st) σ r τ) : Ev G M pc lo st σ r τ :=
  Ev.step (fun a b => ⟨ok_c (lo_ok h b) a, b⟩) (fun p l e R s m args below meth c H locs cells slots Q ls hF hZ hl hst hlo kk => lv_iload_n hF.1 hF.2.1 d hi (lo_at hl h) (kk ls hl)) k
theorem ev_iload {G : mG} {M : mM} {pc : Nat} {lo : List (Nat × mV)} {st : List mV} {σ τ : mS} {r : mX} {i : Nat} {x : Int} (d : decode (mCo M) pc = .ok (.iload i, 2)) (j : Nat) (h : lo[j]? = some (i, vi x)) (k : Ev G M (pc + 2) lo (vi x :: st) σ r τ) : Ev G M pc lo st σ r τ :=
  Ev.step (fun a b => ⟨ok_c (lo_ok h b) a, b⟩) (fun p l e R s m args below meth c H locs cells slots Q ls hF hZ hl hst hlo kk => lv_iload hF.1 hF.2.1 d (lo_at hl h) (kk ls hl)) k
theorem ev_lload_n {G : mG} {M : mM} {pc : Nat} {lo : List (Nat × mV)} {st : List mV} {σ τ : mS} {r : mX} {k0 : Fin 4} {i : Nat} {x : BitVec 64} (d : decode (mCo M) pc = .ok (.lload_n k0, 1)) (j : Nat) (hi : (k0 : Nat) = i) (h : lo[j]? = some (i, vl x)) (k : Ev G M (pc + 1) lo (vl x :: st) σ r τ) : Ev G M pc lo st σ r τ :=
  Ev.step (fun a b => ⟨ok_c (lo_ok h b) a, b⟩) (fun p l e R s m args below meth c H locs cells slots Q ls hF hZ hl hst hlo kk => lv_lload_n hF.1 hF.2.1 d hi (lo_at hl h) (kk ls hl)) k
theorem ev_lload {G : mG} {M : mM} {pc : Nat} {lo : List (Nat × mV)} {st : List mV} {σ τ : mS} {r : mX} {i : Nat} {x : BitVec 64} (d : decode (mCo M) pc = .ok (.lload i, 2)) (j : Nat) (h : lo[j]? = some (i, vl x)) (k : Ev G M (pc + 2) lo (vl x :: st) σ r τ) : Ev G M pc lo st σ r τ :=
  Ev.step (fun a b => ⟨ok_c (lo_ok h b) a, b⟩) (fun p l e R s m args below meth c H locs cells slots Q ls hF hZ hl hst hlo kk => lv_lload hF.1 hF.2.1 d (lo_at hl h) (kk ls hl)) k
theorem ev_aload_n {G : mG} {M : mM} {pc : Nat} {lo : List (Nat × mV)} {st : List mV} {σ τ : mS} {r : mX} {k0 : Fin 4} {i a : Nat} (d : decode (mCo M) pc = .ok (.aload_n k0, 1)) (j : Nat) (hi : (k0 : Nat) = i) (h : lo[j]? = some (i, vr a)) (k : Ev G M (pc + 1) lo (vr a :: st) σ r τ) : Ev G M pc lo st σ r τ := by
  refine Ev.step (fun a b => ⟨ok_c ok_r a, b⟩) (fun p l e R s m args below meth c H locs cells slots Q ls hF hZ hl hst hlo kk => ?_) k
  have h1 := lo_at hl h
  have h2 := kk ls hl
  by_cases h0 : a = 0
  · subst h0
    exact lv_aload_nN hF.1 hF.2.1 d hi h1 h2
  · rw [tv_r G h0] at h1
    rw [List.map_cons, tv_r G h0] at h2
    exact lv_aload_n hF.1 hF.2.1 d hi h1 h2
theorem ev_aload {G : mG} {M : mM} {pc : Nat} {lo : List (Nat × mV)} {st : List mV} {σ τ : mS} {r : mX} {i a : Nat} (d : decode (mCo M) pc = .ok (.aload i, 2)) (j : Nat) (h : lo[j]? = some (i, vr a)) (k : Ev G M (pc + 2) lo (vr a :: st) σ r τ) : Ev G M pc lo st σ r τ := by
  refine Ev.step (fun a b => ⟨ok_c ok_r a, b⟩) (fun p l e R s m args below meth c H locs cells slots Q ls hF hZ hl hst hlo kk => ?_) k
  have h1 := lo_at hl h
  have h2 := kk ls hl
  by_cases h0 : a = 0
  · subst h0
    exact lv_aloadN hF.1 hF.2.1 d h1 h2
  · rw [tv_r G h0] at h1
    rw [List.map_cons, tv_r G h0] at h2
    exact lv_aload hF.1 hF.2.1 d h1 h2
theorem ev_istore_n {G : mG} {M : mM} {pc : Nat} {lo : List (Nat × mV)} {st : List mV} {σ τ : mS} {r : mX} {k0 : Fin 4} {i : Nat} {x : Int} {lo' : List (Nat × mV)} (d : decode (mCo M) pc = .ok (.istore_n k0, 1)) (hi : (k0 : Nat) = i) (hn : i < mNl M) (e : (i, vi x) :: lo.filter (mK1 i) = lo') (k : Ev G M (pc + 1) lo' st σ r τ) : Ev G M pc lo (vi x :: st) σ r τ := by
  subst e
  exact Ev.step (fun a b => ⟨ok_t a, ok_s (ok_h a) b⟩) (fun p l e R s m args below meth c H locs cells slots Q ls hF hZ hl hst hlo kk => lv_istore_n hF.1 hF.2.1 d hi hl hn (lo_set1 G lo i (vi x)) kk) k
theorem ev_istore {G : mG} {M : mM} {pc : Nat} {lo : List (Nat × mV)} {st : List mV} {σ τ : mS} {r : mX} {i : Nat} {x : Int} {lo' : List (Nat × mV)} (d : decode (mCo M) pc = .ok (.istore i, 2)) (hn : i < mNl M) (e : (i, vi x) :: lo.filter (mK1 i) = lo') (k : Ev G M (pc + 2) lo' st σ r τ) : Ev G M pc lo (vi x :: st) σ r τ := by
  subst e
  exact Ev.step (fun a b => ⟨ok_t a, ok_s (ok_h a) b⟩) (fun p l e R s m args below meth c H locs cells slots Q ls hF hZ hl hst hlo kk => lv_istore hF.1 hF.2.1 d hl hn (lo_set1 G lo i (vi x)) kk) k
theorem ev_lstore_n {G : mG} {M : mM} {pc : Nat} {lo : List (Nat × mV)} {st : List mV} {σ τ : mS} {r : mX} {k0 : Fin 4} {i : Nat} {x : BitVec 64} {lo' : List (Nat × mV)} (d : decode (mCo M) pc = .ok (.lstore_n k0, 1)) (hi : (k0 : Nat) = i) (hn : i + 1 < mNl M) (e : (i, vl x) :: lo.filter (mK2 i) = lo') (k : Ev G M (pc + 1) lo' st σ r τ) : Ev G M pc lo (vl x :: st) σ r τ := by
  subst e
  exact Ev.step (fun a b => ⟨ok_t a, ok_s (ok_h a) b⟩) (fun p l e R s m args below meth c H locs cells slots Q ls hF hZ hl hst hlo kk => lv_lstore_n hF.1 hF.2.1 d hi hl hn (lo_set2 G lo i (vl x)) kk) k
theorem ev_lstore {G : mG} {M : mM} {pc : Nat} {lo : List (Nat × mV)} {st : List mV} {σ τ : mS} {r : mX} {i : Nat} {x : BitVec 64} {lo' : List (Nat × mV)} (d : decode (mCo M) pc = .ok (.lstore i, 2)) (hn : i + 1 < mNl M) (e : (i, vl x) :: lo.filter (mK2 i) = lo') (k : Ev G M (pc + 2) lo' st σ r τ) : Ev G M pc lo (vl x :: st) σ r τ := by
  subst e
  exact Ev.step (fun a b => ⟨ok_t a, ok_s (ok_h a) b⟩) (fun p l e R s m args below meth c H locs cells slots Q ls hF hZ hl hst hlo kk => lv_lstore hF.1 hF.2.1 d hl hn (lo_set2 G lo i (vl x)) kk) k
theorem ev_astore_n {G : mG} {M : mM} {pc : Nat} {lo : List (Nat × mV)} {st : List mV} {σ τ : mS} {r : mX} {k0 : Fin 4} {i a : Nat} {lo' : List (Nat × mV)} (d : decode (mCo M) pc = .ok (.astore_n k0, 1)) (hi : (k0 : Nat) = i) (hn : i < mNl M) (e : (i, vr a) :: lo.filter (mK1 i) = lo') (k : Ev G M (pc + 1) lo' st σ r τ) : Ev G M pc lo (vr a :: st) σ r τ := by
  subst e
  refine Ev.step (fun a b => ⟨ok_t a, ok_s ok_r b⟩) (fun p l e R s m args below meth c H locs cells slots Q ls hF hZ hl hst hlo kk => ?_) k
  have h1 := lo_set1 G lo i (vr a)
  by_cases h0 : a = 0
  · subst h0
    exact lv_astore_nN hF.1 hF.2.1 d hi hl hn h1 kk
  · rw [tv_r G h0] at h1
    rw [List.map_cons, tv_r G h0]
    exact lv_astore_n hF.1 hF.2.1 d hi hl hn h1 kk
theorem ev_astore {G : mG} {M : mM} {pc : Nat} {lo : List (Nat × mV)} {st : List mV} {σ τ : mS} {r : mX} {i a : Nat} {lo' : List (Nat × mV)} (d : decode (mCo M) pc = .ok (.astore i, 2)) (hn : i < mNl M) (e : (i, vr a) :: lo.filter (mK1 i) = lo') (k : Ev G M (pc + 2) lo' st σ r τ) : Ev G M pc lo (vr a :: st) σ r τ := by
  subst e
  refine Ev.step (fun a b => ⟨ok_t a, ok_s ok_r b⟩) (fun p l e R s m args below meth c H locs cells slots Q ls hF hZ hl hst hlo kk => ?_) k
  have h1 := lo_set1 G lo i (vr a)
  by_cases h0 : a = 0
  · subst h0
    exact lv_astoreN hF.1 hF.2.1 d hl hn h1 kk
  · rw [tv_r G h0] at h1
    rw [List.map_cons, tv_r G h0]
    exact lv_astore hF.1 hF.2.1 d hl hn h1 kk
theorem ev_iinc {G : mG} {M : mM} {pc : Nat} {lo : List (Nat × mV)} {st : List mV} {σ τ : mS} {r : mX} {i : Nat} {n x : Int} {lo' : List (Nat × mV)} (d : decode (mCo M) pc = .ok (.iinc i n, 3)) (j : Nat) (h : lo[j]? = some (i, vi x)) (hn : i < mNl M) (e : (i, vi (mw (x + n))) :: lo.filter (mK1 i) = lo') (k : Ev G M (pc + 3) lo' st σ r τ) : Ev G M pc lo st σ r τ := by
  subst e
  refine Ev.step (fun a b => ⟨a, ok_s (ok_w _) b⟩) (fun p l e R s m args below meth c H locs cells slots Q ls hF hZ hl hst hlo kk => ?_) k
  exact lv_iinc (k := j) (v := Int32.ofInt (mw (x + n))) hF.1 hF.2.1 d hl (by rw [List.getElem?_map, h]; rfl) (by rw [oi_mw, Int32.ofInt_add]) hn (lo_set1 G lo i (vi (mw (x + n)))) kk
theorem ev_iadd {G : mG} {M : mM} {pc : Nat} {lo : List (Nat × mV)} {st : List mV} {σ τ : mS} {r : mX} {x y : Int} (d : decode (mCo M) pc = .ok (.iadd, 1)) (k : Ev G M (pc + 1) lo (vi (mw (x + y)) :: st) σ r τ) : Ev G M pc lo (vi y :: vi x :: st) σ r τ := by
  refine Ev.step (fun a b => ⟨ok_c (ok_w _) (ok_t (ok_t a)), b⟩) (fun p l e R s m args below meth c H locs cells slots Q ls hF hZ hl hst hlo kk => lv_iadd hF.1 hF.2.1 d ?_) k
  have h := kk ls hl
  rw [List.map_cons, tv_i, oi_mw, Int32.ofInt_add] at h
  exact h
theorem ev_isub {G : mG} {M : mM} {pc : Nat} {lo : List (Nat × mV)} {st : List mV} {σ τ : mS} {r : mX} {x y : Int} (d : decode (mCo M) pc = .ok (.isub, 1)) (k : Ev G M (pc + 1) lo (vi (mw (x - y)) :: st) σ r τ) : Ev G M pc lo (vi y :: vi x :: st) σ r τ := by
  refine Ev.step (fun a b => ⟨ok_c (ok_w _) (ok_t (ok_t a)), b⟩) (fun p l e R s m args below meth c H locs cells slots Q ls hF hZ hl hst hlo kk => lv_isub hF.1 hF.2.1 d ?_) k
  have h := kk ls hl
  rw [List.map_cons, tv_i, oi_mw, Int32.ofInt_sub] at h
  exact h
theorem ev_imul {G : mG} {M : mM} {pc : Nat} {lo : List (Nat × mV)} {st : List mV} {σ τ : mS} {r : mX} {x y : Int} (d : decode (mCo M) pc = .ok (.imul, 1)) (k : Ev G M (pc + 1) lo (vi (mw (x * y)) :: st) σ r τ) : Ev G M pc lo (vi y :: vi x :: st) σ r τ := by
  refine Ev.step (fun a b => ⟨ok_c (ok_w _) (ok_t (ok_t a)), b⟩) (fun p l e R s m args below meth c H locs cells slots Q ls hF hZ hl hst hlo kk => lv_imul hF.1 hF.2.1 d ?_) k
  have h := kk ls hl
  rw [List.map_cons, tv_i, oi_mw, Int32.ofInt_mul] at h
  exact h
theorem ev_ineg {G : mG} {M : mM} {pc : Nat} {lo : List (Nat × mV)} {st : List mV} {σ τ : mS} {r : mX} {x : Int} (d : decode (mCo M) pc = .ok (.ineg, 1)) (k : Ev G M (pc + 1) lo (vi (mw (-x)) :: st) σ r τ) : Ev G M pc lo (vi x :: st) σ r τ := by
  refine Ev.step (fun a b => ⟨ok_c (ok_w _) (ok_t a), b⟩) (fun p l e R s m args below meth c H locs cells slots Q ls hF hZ hl hst hlo kk => lv_ineg hF.1 hF.2.1 d ?_) k
  have h := kk ls hl
  rw [List.map_cons, tv_i, oi_mw, Int32.ofInt_neg] at h
  exact h
def mand (x y : Int) : Int := (Int32.ofInt x &&& Int32.ofInt y).toInt
theorem ev_iand {G : mG} {M : mM} {pc : Nat} {lo : List (Nat × mV)} {st : List mV} {σ τ : mS} {r : mX} {x y : Int} (d : decode (mCo M) pc = .ok (.iand, 1)) (k : Ev G M (pc + 1) lo (vi (mand x y) :: st) σ r τ) : Ev G M pc lo (vi y :: vi x :: st) σ r τ := by
  refine Ev.step (fun a b => ⟨ok_c (ok_i _) (ok_t (ok_t a)), b⟩) (fun p l e R s m args below meth c H locs cells slots Q ls hF hZ hl hst hlo kk => lv_iand hF.1 hF.2.1 d ?_) k
  have h := kk ls hl
  rw [List.map_cons, tv_i, oi_back] at h
  exact h
def mor (x y : Int) : Int := (Int32.ofInt x ||| Int32.ofInt y).toInt
theorem ev_ior {G : mG} {M : mM} {pc : Nat} {lo : List (Nat × mV)} {st : List mV} {σ τ : mS} {r : mX} {x y : Int} (d : decode (mCo M) pc = .ok (.ior, 1)) (k : Ev G M (pc + 1) lo (vi (mor x y) :: st) σ r τ) : Ev G M pc lo (vi y :: vi x :: st) σ r τ := by
  refine Ev.step (fun a b => ⟨ok_c (ok_i _) (ok_t (ok_t a)), b⟩) (fun p l e R s m args below meth c H locs cells slots Q ls hF hZ hl hst hlo kk => lv_ior hF.1 hF.2.1 d ?_) k
  have h := kk ls hl
  rw [List.map_cons, tv_i, oi_back] at h
  exact h
def mxor (x y : Int) : Int := (Int32.ofInt x ^^^ Int32.ofInt y).toInt
theorem ev_ixor {G : mG} {M : mM} {pc : Nat} {lo : List (Nat × mV)} {st : List mV} {σ τ : mS} {r : mX} {x y : Int} (d : decode (mCo M) pc = .ok (.ixor, 1)) (k : Ev G M (pc + 1) lo (vi (mxor x y) :: st) σ r τ) : Ev G M pc lo (vi y :: vi x :: st) σ r τ := by
  refine Ev.step (fun a b => ⟨ok_c (ok_i _) (ok_t (ok_t a)), b⟩) (fun p l e R s m args below meth c H locs cells slots Q ls hF hZ hl hst hlo kk => lv_ixor hF.1 hF.2.1 d ?_) k
  have h := kk ls hl
  rw [List.map_cons, tv_i, oi_back] at h
  exact h
def mshl (x y : Int) : Int := (Int32.ofInt x <<< (Int32.ofInt y &&& 31)).toInt
theorem ev_ishl {G : mG} {M : mM} {pc : Nat} {lo : List (Nat × mV)} {st : List mV} {σ τ : mS} {r : mX} {x y : Int} (d : decode (mCo M) pc = .ok (.ishl, 1)) (k : Ev G M (pc + 1) lo (vi (mshl x y) :: st) σ r τ) : Ev G M pc lo (vi y :: vi x :: st) σ r τ := by
  refine Ev.step (fun a b => ⟨ok_c (ok_i _) (ok_t (ok_t a)), b⟩) (fun p l e R s m args below meth c H locs cells slots Q ls hF hZ hl hst hlo kk => lv_ishl hF.1 hF.2.1 d ?_) k
  have h := kk ls hl
  rw [List.map_cons, tv_i, oi_back] at h
  exact h
def mshr (x y : Int) : Int := (Int32.ofInt x >>> (Int32.ofInt y &&& 31)).toInt
theorem ev_ishr {G : mG} {M : mM} {pc : Nat} {lo : List (Nat × mV)} {st : List mV} {σ τ : mS} {r : mX} {x y : Int} (d : decode (mCo M) pc = .ok (.ishr, 1)) (k : Ev G M (pc + 1) lo (vi (mshr x y) :: st) σ r τ) : Ev G M pc lo (vi y :: vi x :: st) σ r τ := by
  refine Ev.step (fun a b => ⟨ok_c (ok_i _) (ok_t (ok_t a)), b⟩) (fun p l e R s m args below meth c H locs cells slots Q ls hF hZ hl hst hlo kk => lv_ishr hF.1 hF.2.1 d ?_) k
  have h := kk ls hl
  rw [List.map_cons, tv_i, oi_back] at h
  exact h
def mushr (x y : Int) : Int := ((Int32.ofInt x).toUInt32 >>> ((Int32.ofInt y).toUInt32 &&& Int32.toUInt32 31)).toInt32.toInt
theorem ev_iushr {G : mG} {M : mM} {pc : Nat} {lo : List (Nat × mV)} {st : List mV} {σ τ : mS} {r : mX} {x y : Int} (d : decode (mCo M) pc = .ok (.iushr, 1)) (k : Ev G M (pc + 1) lo (vi (mushr x y) :: st) σ r τ) : Ev G M pc lo (vi y :: vi x :: st) σ r τ := by
  refine Ev.step (fun a b => ⟨ok_c (ok_i _) (ok_t (ok_t a)), b⟩) (fun p l e R s m args below meth c H locs cells slots Q ls hF hZ hl hst hlo kk => lv_iushr hF.1 hF.2.1 d rfl ?_) k
  have h := kk ls hl
  rw [List.map_cons, tv_i, oi_back] at h
  exact h
def mdiv (x y : Int) : Int := (Int32.ofInt x / Int32.ofInt y).toInt
theorem ev_idiv {G : mG} {M : mM} {pc : Nat} {lo : List (Nat × mV)} {st : List mV} {σ τ : mS} {r : mX} {x y : Int} (d : decode (mCo M) pc = .ok (.idiv, 1)) (h0 : y ≠ 0) (k : Ev G M (pc + 1) lo (vi (mdiv x y) :: st) σ r τ) : Ev G M pc lo (vi y :: vi x :: st) σ r τ := by
  refine Ev.step (fun a b => ⟨ok_c (ok_i _) (ok_t (ok_t a)), b⟩) (fun p l e R s m args below meth c H locs cells slots Q ls hF hZ hl hst hlo kk => lv_idiv hF.1 hF.2.1 d (fun q => h0 ((oi_eq (ok_h hst) mIn0).1 q)) ?_) k
  have h := kk ls hl
  rw [List.map_cons, tv_i, oi_back] at h
  exact h
def mi2b (x : Int) : Int := (Int32.ofInt x).toInt8.toInt32.toInt
theorem ev_i2b {G : mG} {M : mM} {pc : Nat} {lo : List (Nat × mV)} {st : List mV} {σ τ : mS} {r : mX} {x : Int} (d : decode (mCo M) pc = .ok (.i2b, 1)) (k : Ev G M (pc + 1) lo (vi (mi2b x) :: st) σ r τ) : Ev G M pc lo (vi x :: st) σ r τ := by
  refine Ev.step (fun a b => ⟨ok_c (ok_i _) (ok_t a), b⟩) (fun p l e R s m args below meth c H locs cells slots Q ls hF hZ hl hst hlo kk => lv_i2b hF.1 hF.2.1 d rfl ?_) k
  have h := kk ls hl
  rw [List.map_cons, tv_i, oi_back] at h
  exact h
def mi2l (x : Int) : BitVec 64 := (Int32.ofInt x).toInt64.toBitVec
theorem ev_i2l {G : mG} {M : mM} {pc : Nat} {lo : List (Nat × mV)} {st : List mV} {σ τ : mS} {r : mX} {x : Int} (d : decode (mCo M) pc = .ok (.i2l, 1)) (k : Ev G M (pc + 1) lo (vl (mi2l x) :: st) σ r τ) : Ev G M pc lo (vi x :: st) σ r τ :=
  Ev.step (fun a b => ⟨ok_c ok_l (ok_t a), b⟩) (fun p l e R s m args below meth c H locs cells slots Q ls hF hZ hl hst hlo kk => lv_i2l hF.1 hF.2.1 d rfl (kk ls hl)) k
def ml2i (w : BitVec 64) : Int := (Int64.ofBitVec w).toInt32.toInt
theorem ev_l2i {G : mG} {M : mM} {pc : Nat} {lo : List (Nat × mV)} {st : List mV} {σ τ : mS} {r : mX} {w : BitVec 64} (d : decode (mCo M) pc = .ok (.l2i, 1)) (k : Ev G M (pc + 1) lo (vi (ml2i w) :: st) σ r τ) : Ev G M pc lo (vl w :: st) σ r τ := by
  refine Ev.step (fun a b => ⟨ok_c (ok_i _) (ok_t a), b⟩) (fun p l e R s m args below meth c H locs cells slots Q ls hF hZ hl hst hlo kk => lv_l2i hF.1 hF.2.1 d rfl ?_) k
  have h := kk ls hl
  rw [List.map_cons, tv_i, oi_back] at h
  exact h
theorem ev_ladd {G : mG} {M : mM} {pc : Nat} {lo : List (Nat × mV)} {st : List mV} {σ τ : mS} {r : mX} {x y : BitVec 64} (d : decode (mCo M) pc = .ok (.ladd, 1)) (k : Ev G M (pc + 1) lo (vl (x + y) :: st) σ r τ) : Ev G M pc lo (vl y :: vl x :: st) σ r τ :=
  Ev.step (fun a b => ⟨ok_c ok_l (ok_t (ok_t a)), b⟩) (fun p l e R s m args below meth c H locs cells slots Q ls hF hZ hl hst hlo kk => lv_ladd hF.1 hF.2.1 d (kk ls hl)) k
theorem ev_lsub {G : mG} {M : mM} {pc : Nat} {lo : List (Nat × mV)} {st : List mV} {σ τ : mS} {r : mX} {x y : BitVec 64} (d : decode (mCo M) pc = .ok (.lsub, 1)) (k : Ev G M (pc + 1) lo (vl (x - y) :: st) σ r τ) : Ev G M pc lo (vl y :: vl x :: st) σ r τ :=
  Ev.step (fun a b => ⟨ok_c ok_l (ok_t (ok_t a)), b⟩) (fun p l e R s m args below meth c H locs cells slots Q ls hF hZ hl hst hlo kk => lv_lsub hF.1 hF.2.1 d (kk ls hl)) k
theorem ev_lmul {G : mG} {M : mM} {pc : Nat} {lo : List (Nat × mV)} {st : List mV} {σ τ : mS} {r : mX} {x y : BitVec 64} (d : decode (mCo M) pc = .ok (.lmul, 1)) (k : Ev G M (pc + 1) lo (vl (x * y) :: st) σ r τ) : Ev G M pc lo (vl y :: vl x :: st) σ r τ :=
  Ev.step (fun a b => ⟨ok_c ok_l (ok_t (ok_t a)), b⟩) (fun p l e R s m args below meth c H locs cells slots Q ls hF hZ hl hst hlo kk => lv_lmul hF.1 hF.2.1 d (kk ls hl)) k
theorem ev_land {G : mG} {M : mM} {pc : Nat} {lo : List (Nat × mV)} {st : List mV} {σ τ : mS} {r : mX} {x y : BitVec 64} (d : decode (mCo M) pc = .ok (.land, 1)) (k : Ev G M (pc + 1) lo (vl (x &&& y) :: st) σ r τ) : Ev G M pc lo (vl y :: vl x :: st) σ r τ :=
  Ev.step (fun a b => ⟨ok_c ok_l (ok_t (ok_t a)), b⟩) (fun p l e R s m args below meth c H locs cells slots Q ls hF hZ hl hst hlo kk => lv_land hF.1 hF.2.1 d (kk ls hl)) k
theorem ev_lor {G : mG} {M : mM} {pc : Nat} {lo : List (Nat × mV)} {st : List mV} {σ τ : mS} {r : mX} {x y : BitVec 64} (d : decode (mCo M) pc = .ok (.lor, 1)) (k : Ev G M (pc + 1) lo (vl (x ||| y) :: st) σ r τ) : Ev G M pc lo (vl y :: vl x :: st) σ r τ :=
  Ev.step (fun a b => ⟨ok_c ok_l (ok_t (ok_t a)), b⟩) (fun p l e R s m args below meth c H locs cells slots Q ls hF hZ hl hst hlo kk => lv_lor hF.1 hF.2.1 d (kk ls hl)) k
theorem ev_lxor {G : mG} {M : mM} {pc : Nat} {lo : List (Nat × mV)} {st : List mV} {σ τ : mS} {r : mX} {x y : BitVec 64} (d : decode (mCo M) pc = .ok (.lxor, 1)) (k : Ev G M (pc + 1) lo (vl (x ^^^ y) :: st) σ r τ) : Ev G M pc lo (vl y :: vl x :: st) σ r τ :=
  Ev.step (fun a b => ⟨ok_c ok_l (ok_t (ok_t a)), b⟩) (fun p l e R s m args below meth c H locs cells slots Q ls hF hZ hl hst hlo kk => lv_lxor hF.1 hF.2.1 d (kk ls hl)) k
def mlshl (w : BitVec 64) (y : Int) : BitVec 64 := (Int64.ofBitVec w <<< ((Int32.ofInt y).toInt64 &&& 63)).toBitVec
theorem ev_lshl {G : mG} {M : mM} {pc : Nat} {lo : List (Nat × mV)} {st : List mV} {σ τ : mS} {r : mX} {w : BitVec 64} {y : Int} (d : decode (mCo M) pc = .ok (.lshl, 1)) (k : Ev G M (pc + 1) lo (vl (mlshl w y) :: st) σ r τ) : Ev G M pc lo (vi y :: vl w :: st) σ r τ :=
  Ev.step (fun a b => ⟨ok_c ok_l (ok_t (ok_t a)), b⟩) (fun p l e R s m args below meth c H locs cells slots Q ls hF hZ hl hst hlo kk => lv_lshl hF.1 hF.2.1 d rfl (kk ls hl)) k
def mlushr (w : BitVec 64) (y : Int) : BitVec 64 := ((Int64.ofBitVec w).toUInt64 >>> ((Int32.ofInt y).toInt64.toUInt64 &&& Int64.toUInt64 63)).toInt64.toBitVec
theorem ev_lushr {G : mG} {M : mM} {pc : Nat} {lo : List (Nat × mV)} {st : List mV} {σ τ : mS} {r : mX} {w : BitVec 64} {y : Int} (d : decode (mCo M) pc = .ok (.lushr, 1)) (k : Ev G M (pc + 1) lo (vl (mlushr w y) :: st) σ r τ) : Ev G M pc lo (vi y :: vl w :: st) σ r τ :=
  Ev.step (fun a b => ⟨ok_c ok_l (ok_t (ok_t a)), b⟩) (fun p l e R s m args below meth c H locs cells slots Q ls hF hZ hl hst hlo kk => lv_lushr hF.1 hF.2.1 d rfl (kk ls hl)) k
def mlcmp (x y : BitVec 64) : Int := (lg_cmp (Int64.ofBitVec x) (Int64.ofBitVec y)).toInt
theorem ev_lcmp {G : mG} {M : mM} {pc : Nat} {lo : List (Nat × mV)} {st : List mV} {σ τ : mS} {r : mX} {x y : BitVec 64} (d : decode (mCo M) pc = .ok (.lcmp, 1)) (k : Ev G M (pc + 1) lo (vi (mlcmp x y) :: st) σ r τ) : Ev G M pc lo (vl y :: vl x :: st) σ r τ := by
  refine Ev.step (fun a b => ⟨ok_c (ok_i _) (ok_t (ok_t a)), b⟩) (fun p l e R s m args below meth c H locs cells slots Q ls hF hZ hl hst hlo kk => W.lcmp hF.1 hF.2.1 d ?_) k
  have h := kk ls hl
  rw [List.map_cons, tv_i, oi_back] at h
  exact h
theorem ev_dup {G : mG} {M : mM} {pc : Nat} {lo : List (Nat × mV)} {st : List mV} {σ τ : mS} {r : mX} {v : mV} (d : decode (mCo M) pc = .ok (.dup, 1)) (hv : mCat v = 1) (k : Ev G M (pc + 1) lo (v :: v :: st) σ r τ) : Ev G M pc lo (v :: st) σ r τ :=
  Ev.step (fun a b => ⟨ok_c (ok_h a) a, b⟩) (fun p l e R s m args below meth c H locs cells slots Q ls hF hZ hl hst hlo kk => lv_dup hF.1 hF.2.1 d ((tv_cat G v).trans hv) (kk ls hl)) k
theorem ev_pop {G : mG} {M : mM} {pc : Nat} {lo : List (Nat × mV)} {st : List mV} {σ τ : mS} {r : mX} {v : mV} (d : decode (mCo M) pc = .ok (.pop, 1)) (hv : mCat v = 1) (k : Ev G M (pc + 1) lo st σ r τ) : Ev G M pc lo (v :: st) σ r τ :=
  Ev.step (fun a b => ⟨ok_t a, b⟩) (fun p l e R s m args below meth c H locs cells slots Q ls hF hZ hl hst hlo kk => lv_pop hF.1 hF.2.1 d ((tv_cat G v).trans hv) (kk ls hl)) k
theorem ev_dup2 {G : mG} {M : mM} {pc : Nat} {lo : List (Nat × mV)} {st : List mV} {σ τ : mS} {r : mX} {v u : mV} (d : decode (mCo M) pc = .ok (.dup2, 1)) (hv : mCat v = 1) (hu : mCat u = 1) (k : Ev G M (pc + 1) lo (v :: u :: v :: u :: st) σ r τ) : Ev G M pc lo (v :: u :: st) σ r τ :=
  Ev.step (fun a b => ⟨ok_c (ok_h a) (ok_c (ok_h (ok_t a)) a), b⟩) (fun p l e R s m args below meth c H locs cells slots Q ls hF hZ hl hst hlo kk => lv_dup2_11 hF.1 hF.2.1 d ((tv_cat G v).trans hv) ((tv_cat G u).trans hu) (kk ls hl)) k
theorem ev_dup_x1 {G : mG} {M : mM} {pc : Nat} {lo : List (Nat × mV)} {st : List mV} {σ τ : mS} {r : mX} {v u : mV} (d : decode (mCo M) pc = .ok (.dup_x1, 1)) (hv : mCat v = 1) (hu : mCat u = 1) (k : Ev G M (pc + 1) lo (v :: u :: v :: st) σ r τ) : Ev G M pc lo (v :: u :: st) σ r τ :=
  Ev.step (fun a b => ⟨ok_c (ok_h a) (ok_c (ok_h (ok_t a)) (ok_c (ok_h a) (ok_t (ok_t a)))), b⟩) (fun p l e R s m args below meth c H locs cells slots Q ls hF hZ hl hst hlo kk => lv_dup_x1 hF.1 hF.2.1 d ((tv_cat G v).trans hv) ((tv_cat G u).trans hu) (kk ls hl)) k
theorem ev_goto {G : mG} {M : mM} {pc : Nat} {lo : List (Nat × mV)} {st : List mV} {σ τ : mS} {r : mX} {off : Int} {tgt : Nat} (d : decode (mCo M) pc = .ok (.goto off, 3)) (ht : (pc : Int) + off = (tgt : Int)) (k : Ev G M tgt lo st σ r τ) : Ev G M pc lo st σ r τ :=
  Ev.step (fun a b => ⟨a, b⟩) (fun p l e R s m args below meth c H locs cells slots Q ls hF hZ hl hst hlo kk => lv_goto hF.1 hF.2.1 d ht (kk ls hl)) k
theorem ev_if_eq_t {G : mG} {M : mM} {pc : Nat} {lo : List (Nat × mV)} {st : List mV} {σ τ : mS} {r : mX} {x : Int} {off : Int} {tgt : Nat} (d : decode (mCo M) pc = .ok (.ifCond .eq off, 3)) (ht : (pc : Int) + off = (tgt : Int)) (h : x = 0) (k : Ev G M tgt lo st σ r τ) : Ev G M pc lo (vi x :: st) σ r τ := by
  refine Ev.step (fun a b => ⟨ok_t a, b⟩) (fun p l e R s m args below meth c H locs cells slots Q ls hF hZ hl hst hlo kk => ?_) k
  have hx : mIn x := ok_h hst
  exact lv_if_eq hF.1 hF.2.1 d ht (fun q => kk ls hl) (fun q => absurd (((oi_eq hx mIn0)).2 h) q)
theorem ev_if_eq_f {G : mG} {M : mM} {pc : Nat} {lo : List (Nat × mV)} {st : List mV} {σ τ : mS} {r : mX} {x : Int} {off : Int} (tgt : Nat) (d : decode (mCo M) pc = .ok (.ifCond .eq off, 3)) (ht : (pc : Int) + off = (tgt : Int)) (h : ¬ (x = 0)) (k : Ev G M (pc + 3) lo st σ r τ) : Ev G M pc lo (vi x :: st) σ r τ := by
  refine Ev.step (fun a b => ⟨ok_t a, b⟩) (fun p l e R s m args below meth c H locs cells slots Q ls hF hZ hl hst hlo kk => ?_) k
  have hx : mIn x := ok_h hst
  exact lv_if_eq hF.1 hF.2.1 d ht (fun q => absurd (((oi_eq hx mIn0)).1 q) h) (fun q => kk ls hl)
theorem ev_icmp_eq_t {G : mG} {M : mM} {pc : Nat} {lo : List (Nat × mV)} {st : List mV} {σ τ : mS} {r : mX} {x y : Int} {off : Int} {tgt : Nat} (d : decode (mCo M) pc = .ok (.if_icmp .eq off, 3)) (ht : (pc : Int) + off = (tgt : Int)) (h : x = y) (k : Ev G M tgt lo st σ r τ) : Ev G M pc lo (vi y :: vi x :: st) σ r τ := by
  refine Ev.step (fun a b => ⟨ok_t (ok_t a), b⟩) (fun p l e R s m args below meth c H locs cells slots Q ls hF hZ hl hst hlo kk => ?_) k
  have hx : mIn x := ok_h (ok_t hst)
  have hy : mIn y := ok_h hst
  exact lv_icmp_eq hF.1 hF.2.1 d ht (fun q => kk ls hl) (fun q => absurd (((oi_eq hx hy)).2 h) q)
theorem ev_icmp_eq_f {G : mG} {M : mM} {pc : Nat} {lo : List (Nat × mV)} {st : List mV} {σ τ : mS} {r : mX} {x y : Int} {off : Int} (tgt : Nat) (d : decode (mCo M) pc = .ok (.if_icmp .eq off, 3)) (ht : (pc : Int) + off = (tgt : Int)) (h : ¬ (x = y)) (k : Ev G M (pc + 3) lo st σ r τ) : Ev G M pc lo (vi y :: vi x :: st) σ r τ := by
  refine Ev.step (fun a b => ⟨ok_t (ok_t a), b⟩) (fun p l e R s m args below meth c H locs cells slots Q ls hF hZ hl hst hlo kk => ?_) k
  have hx : mIn x := ok_h (ok_t hst)
  have hy : mIn y := ok_h hst
  exact lv_icmp_eq hF.1 hF.2.1 d ht (fun q => absurd (((oi_eq hx hy)).1 q) h) (fun q => kk ls hl)
theorem ev_if_ne_t {G : mG} {M : mM} {pc : Nat} {lo : List (Nat × mV)} {st : List mV} {σ τ : mS} {r : mX} {x : Int} {off : Int} {tgt : Nat} (d : decode (mCo M) pc = .ok (.ifCond .ne off, 3)) (ht : (pc : Int) + off = (tgt : Int)) (h : x ≠ 0) (k : Ev G M tgt lo st σ r τ) : Ev G M pc lo (vi x :: st) σ r τ := by
  refine Ev.step (fun a b => ⟨ok_t a, b⟩) (fun p l e R s m args below meth c H locs cells slots Q ls hF hZ hl hst hlo kk => ?_) k
  have hx : mIn x := ok_h hst
  exact lv_if_ne hF.1 hF.2.1 d ht (fun q => kk ls hl) (fun q => absurd (((oi_eq hx mIn0)).1 q) h)
theorem ev_if_ne_f {G : mG} {M : mM} {pc : Nat} {lo : List (Nat × mV)} {st : List mV} {σ τ : mS} {r : mX} {x : Int} {off : Int} (tgt : Nat) (d : decode (mCo M) pc = .ok (.ifCond .ne off, 3)) (ht : (pc : Int) + off = (tgt : Int)) (h : ¬ (x ≠ 0)) (k : Ev G M (pc + 3) lo st σ r τ) : Ev G M pc lo (vi x :: st) σ r τ := by
  refine Ev.step (fun a b => ⟨ok_t a, b⟩) (fun p l e R s m args below meth c H locs cells slots Q ls hF hZ hl hst hlo kk => ?_) k
  have hx : mIn x := ok_h hst
  exact lv_if_ne hF.1 hF.2.1 d ht (fun q => absurd (((oi_eq hx mIn0)).2 (Decidable.not_not.1 h)) q) (fun q => kk ls hl)
theorem ev_icmp_ne_t {G : mG} {M : mM} {pc : Nat} {lo : List (Nat × mV)} {st : List mV} {σ τ : mS} {r : mX} {x y : Int} {off : Int} {tgt : Nat} (d : decode (mCo M) pc = .ok (.if_icmp .ne off, 3)) (ht : (pc : Int) + off = (tgt : Int)) (h : x ≠ y) (k : Ev G M tgt lo st σ r τ) : Ev G M pc lo (vi y :: vi x :: st) σ r τ := by
  refine Ev.step (fun a b => ⟨ok_t (ok_t a), b⟩) (fun p l e R s m args below meth c H locs cells slots Q ls hF hZ hl hst hlo kk => ?_) k
  have hx : mIn x := ok_h (ok_t hst)
  have hy : mIn y := ok_h hst
  exact lv_icmp_ne hF.1 hF.2.1 d ht (fun q => kk ls hl) (fun q => absurd (((oi_eq hx hy)).1 q) h)
theorem ev_icmp_ne_f {G : mG} {M : mM} {pc : Nat} {lo : List (Nat × mV)} {st : List mV} {σ τ : mS} {r : mX} {x y : Int} {off : Int} (tgt : Nat) (d : decode (mCo M) pc = .ok (.if_icmp .ne off, 3)) (ht : (pc : Int) + off = (tgt : Int)) (h : ¬ (x ≠ y)) (k : Ev G M (pc + 3) lo st σ r τ) : Ev G M pc lo (vi y :: vi x :: st) σ r τ := by
  refine Ev.step (fun a b => ⟨ok_t (ok_t a), b⟩) (fun p l e R s m args below meth c H locs cells slots Q ls hF hZ hl hst hlo kk => ?_) k
  have hx : mIn x := ok_h (ok_t hst)
  have hy : mIn y := ok_h hst
  exact lv_icmp_ne hF.1 hF.2.1 d ht (fun q => absurd (((oi_eq hx hy)).2 (Decidable.not_not.1 h)) q) (fun q => kk ls hl)
theorem ev_if_lt_t {G : mG} {M : mM} {pc : Nat} {lo : List (Nat × mV)} {st : List mV} {σ τ : mS} {r : mX} {x : Int} {off : Int} {tgt : Nat} (d : decode (mCo M) pc = .ok (.ifCond .lt off, 3)) (ht : (pc : Int) + off = (tgt : Int)) (h : x < 0) (k : Ev G M tgt lo st σ r τ) : Ev G M pc lo (vi x :: st) σ r τ := by
  refine Ev.step (fun a b => ⟨ok_t a, b⟩) (fun p l e R s m args below meth c H locs cells slots Q ls hF hZ hl hst hlo kk => ?_) k
  have hx : mIn x := ok_h hst
  exact lv_if_lt hF.1 hF.2.1 d ht (fun q => kk ls hl) (fun q => absurd (((oi_lt hx mIn0)).2 h) q)
theorem ev_if_lt_f {G : mG} {M : mM} {pc : Nat} {lo : List (Nat × mV)} {st : List mV} {σ τ : mS} {r : mX} {x : Int} {off : Int} (tgt : Nat) (d : decode (mCo M) pc = .ok (.ifCond .lt off, 3)) (ht : (pc : Int) + off = (tgt : Int)) (h : ¬ (x < 0)) (k : Ev G M (pc + 3) lo st σ r τ) : Ev G M pc lo (vi x :: st) σ r τ := by
  refine Ev.step (fun a b => ⟨ok_t a, b⟩) (fun p l e R s m args below meth c H locs cells slots Q ls hF hZ hl hst hlo kk => ?_) k
  have hx : mIn x := ok_h hst
  exact lv_if_lt hF.1 hF.2.1 d ht (fun q => absurd (((oi_lt hx mIn0)).1 q) h) (fun q => kk ls hl)
theorem ev_icmp_lt_t {G : mG} {M : mM} {pc : Nat} {lo : List (Nat × mV)} {st : List mV} {σ τ : mS} {r : mX} {x y : Int} {off : Int} {tgt : Nat} (d : decode (mCo M) pc = .ok (.if_icmp .lt off, 3)) (ht : (pc : Int) + off = (tgt : Int)) (h : x < y) (k : Ev G M tgt lo st σ r τ) : Ev G M pc lo (vi y :: vi x :: st) σ r τ := by
  refine Ev.step (fun a b => ⟨ok_t (ok_t a), b⟩) (fun p l e R s m args below meth c H locs cells slots Q ls hF hZ hl hst hlo kk => ?_) k
  have hx : mIn x := ok_h (ok_t hst)
  have hy : mIn y := ok_h hst
  exact lv_icmp_lt hF.1 hF.2.1 d ht (fun q => kk ls hl) (fun q => absurd (((oi_lt hx hy)).2 h) q)
theorem ev_icmp_lt_f {G : mG} {M : mM} {pc : Nat} {lo : List (Nat × mV)} {st : List mV} {σ τ : mS} {r : mX} {x y : Int} {off : Int} (tgt : Nat) (d : decode (mCo M) pc = .ok (.if_icmp .lt off, 3)) (ht : (pc : Int) + off = (tgt : Int)) (h : ¬ (x < y)) (k : Ev G M (pc + 3) lo st σ r τ) : Ev G M pc lo (vi y :: vi x :: st) σ r τ := by
  refine Ev.step (fun a b => ⟨ok_t (ok_t a), b⟩) (fun p l e R s m args below meth c H locs cells slots Q ls hF hZ hl hst hlo kk => ?_) k
  have hx : mIn x := ok_h (ok_t hst)
  have hy : mIn y := ok_h hst
  exact lv_icmp_lt hF.1 hF.2.1 d ht (fun q => absurd (((oi_lt hx hy)).1 q) h) (fun q => kk ls hl)
theorem ev_if_ge_t {G : mG} {M : mM} {pc : Nat} {lo : List (Nat × mV)} {st : List mV} {σ τ : mS} {r : mX} {x : Int} {off : Int} {tgt : Nat} (d : decode (mCo M) pc = .ok (.ifCond .ge off, 3)) (ht : (pc : Int) + off = (tgt : Int)) (h : 0 ≤ x) (k : Ev G M tgt lo st σ r τ) : Ev G M pc lo (vi x :: st) σ r τ := by
  refine Ev.step (fun a b => ⟨ok_t a, b⟩) (fun p l e R s m args below meth c H locs cells slots Q ls hF hZ hl hst hlo kk => ?_) k
  have hx : mIn x := ok_h hst
  exact lv_if_ge hF.1 hF.2.1 d ht (fun q => kk ls hl) (fun q => absurd (((oi_le mIn0 hx)).2 h) q)
theorem ev_if_ge_f {G : mG} {M : mM} {pc : Nat} {lo : List (Nat × mV)} {st : List mV} {σ τ : mS} {r : mX} {x : Int} {off : Int} (tgt : Nat) (d : decode (mCo M) pc = .ok (.ifCond .ge off, 3)) (ht : (pc : Int) + off = (tgt : Int)) (h : ¬ (0 ≤ x)) (k : Ev G M (pc + 3) lo st σ r τ) : Ev G M pc lo (vi x :: st) σ r τ := by
  refine Ev.step (fun a b => ⟨ok_t a, b⟩) (fun p l e R s m args below meth c H locs cells slots Q ls hF hZ hl hst hlo kk => ?_) k
  have hx : mIn x := ok_h hst
  exact lv_if_ge hF.1 hF.2.1 d ht (fun q => absurd (((oi_le mIn0 hx)).1 q) h) (fun q => kk ls hl)
theorem ev_icmp_ge_t {G : mG} {M : mM} {pc : Nat} {lo : List (Nat × mV)} {st : List mV} {σ τ : mS} {r : mX} {x y : Int} {off : Int} {tgt : Nat} (d : decode (mCo M) pc = .ok (.if_icmp .ge off, 3)) (ht : (pc : Int) + off = (tgt : Int)) (h : y ≤ x) (k : Ev G M tgt lo st σ r τ) : Ev G M pc lo (vi y :: vi x :: st) σ r τ := by
  refine Ev.step (fun a b => ⟨ok_t (ok_t a), b⟩) (fun p l e R s m args below meth c H locs cells slots Q ls hF hZ hl hst hlo kk => ?_) k
  have hx : mIn x := ok_h (ok_t hst)
  have hy : mIn y := ok_h hst
  exact lv_icmp_ge hF.1 hF.2.1 d ht (fun q => kk ls hl) (fun q => absurd (((oi_le hy hx)).2 h) q)
theorem ev_icmp_ge_f {G : mG} {M : mM} {pc : Nat} {lo : List (Nat × mV)} {st : List mV} {σ τ : mS} {r : mX} {x y : Int} {off : Int} (tgt : Nat) (d : decode (mCo M) pc = .ok (.if_icmp .ge off, 3)) (ht : (pc : Int) + off = (tgt : Int)) (h : ¬ (y ≤ x)) (k : Ev G M (pc + 3) lo st σ r τ) : Ev G M pc lo (vi y :: vi x :: st) σ r τ := by
  refine Ev.step (fun a b => ⟨ok_t (ok_t a), b⟩) (fun p l e R s m args below meth c H locs cells slots Q ls hF hZ hl hst hlo kk => ?_) k
  have hx : mIn x := ok_h (ok_t hst)
  have hy : mIn y := ok_h hst
  exact lv_icmp_ge hF.1 hF.2.1 d ht (fun q => absurd (((oi_le hy hx)).1 q) h) (fun q => kk ls hl)
theorem ev_if_gt_t {G : mG} {M : mM} {pc : Nat} {lo : List (Nat × mV)} {st : List mV} {σ τ : mS} {r : mX} {x : Int} {off : Int} {tgt : Nat} (d : decode (mCo M) pc = .ok (.ifCond .gt off, 3)) (ht : (pc : Int) + off = (tgt : Int)) (h : 0 < x) (k : Ev G M tgt lo st σ r τ) : Ev G M pc lo (vi x :: st) σ r τ := by
  refine Ev.step (fun a b => ⟨ok_t a, b⟩) (fun p l e R s m args below meth c H locs cells slots Q ls hF hZ hl hst hlo kk => ?_) k
  have hx : mIn x := ok_h hst
  exact lv_if_gt hF.1 hF.2.1 d ht (fun q => kk ls hl) (fun q => absurd (((oi_lt mIn0 hx)).2 h) q)
theorem ev_if_gt_f {G : mG} {M : mM} {pc : Nat} {lo : List (Nat × mV)} {st : List mV} {σ τ : mS} {r : mX} {x : Int} {off : Int} (tgt : Nat) (d : decode (mCo M) pc = .ok (.ifCond .gt off, 3)) (ht : (pc : Int) + off = (tgt : Int)) (h : ¬ (0 < x)) (k : Ev G M (pc + 3) lo st σ r τ) : Ev G M pc lo (vi x :: st) σ r τ := by
  refine Ev.step (fun a b => ⟨ok_t a, b⟩) (fun p l e R s m args below meth c H locs cells slots Q ls hF hZ hl hst hlo kk => ?_) k
  have hx : mIn x := ok_h hst
  exact lv_if_gt hF.1 hF.2.1 d ht (fun q => absurd (((oi_lt mIn0 hx)).1 q) h) (fun q => kk ls hl)
theorem ev_icmp_gt_t {G : mG} {M : mM} {pc : Nat} {lo : List (Nat × mV)} {st : List mV} {σ τ : mS} {r : mX} {x y : Int} {off : Int} {tgt : Nat} (d : decode (mCo M) pc = .ok (.if_icmp .gt off, 3)) (ht : (pc : Int) + off = (tgt : Int)) (h : y < x) (k : Ev G M tgt lo st σ r τ) : Ev G M pc lo (vi y :: vi x :: st) σ r τ := by
  refine Ev.step (fun a b => ⟨ok_t (ok_t a), b⟩) (fun p l e R s m args below meth c H locs cells slots Q ls hF hZ hl hst hlo kk => ?_) k
  have hx : mIn x := ok_h (ok_t hst)
  have hy : mIn y := ok_h hst
  exact lv_icmp_gt hF.1 hF.2.1 d ht (fun q => kk ls hl) (fun q => absurd (((oi_lt hy hx)).2 h) q)
theorem ev_icmp_gt_f {G : mG} {M : mM} {pc : Nat} {lo : List (Nat × mV)} {st : List mV} {σ τ : mS} {r : mX} {x y : Int} {off : Int} (tgt : Nat) (d : decode (mCo M) pc = .ok (.if_icmp .gt off, 3)) (ht : (pc : Int) + off = (tgt : Int)) (h : ¬ (y < x)) (k : Ev G M (pc + 3) lo st σ r τ) : Ev G M pc lo (vi y :: vi x :: st) σ r τ := by
  refine Ev.step (fun a b => ⟨ok_t (ok_t a), b⟩) (fun p l e R s m args below meth c H locs cells slots Q ls hF hZ hl hst hlo kk => ?_) k
  have hx : mIn x := ok_h (ok_t hst)
  have hy : mIn y := ok_h hst
  exact lv_icmp_gt hF.1 hF.2.1 d ht (fun q => absurd (((oi_lt hy hx)).1 q) h) (fun q => kk ls hl)
theorem ev_if_le_t {G : mG} {M : mM} {pc : Nat} {lo : List (Nat × mV)} {st : List mV} {σ τ : mS} {r : mX} {x : Int} {off : Int} {tgt : Nat} (d : decode (mCo M) pc = .ok (.ifCond .le off, 3)) (ht : (pc : Int) + off = (tgt : Int)) (h : x ≤ 0) (k : Ev G M tgt lo st σ r τ) : Ev G M pc lo (vi x :: st) σ r τ := by
  refine Ev.step (fun a b => ⟨ok_t a, b⟩) (fun p l e R s m args below meth c H locs cells slots Q ls hF hZ hl hst hlo kk => ?_) k
  have hx : mIn x := ok_h hst
  exact lv_if_le hF.1 hF.2.1 d ht (fun q => kk ls hl) (fun q => absurd (((oi_le hx mIn0)).2 h) q)
theorem ev_if_le_f {G : mG} {M : mM} {pc : Nat} {lo : List (Nat × mV)} {st : List mV} {σ τ : mS} {r : mX} {x : Int} {off : Int} (tgt : Nat) (d : decode (mCo M) pc = .ok (.ifCond .le off, 3)) (ht : (pc : Int) + off = (tgt : Int)) (h : ¬ (x ≤ 0)) (k : Ev G M (pc + 3) lo st σ r τ) : Ev G M pc lo (vi x :: st) σ r τ := by
  refine Ev.step (fun a b => ⟨ok_t a, b⟩) (fun p l e R s m args below meth c H locs cells slots Q ls hF hZ hl hst hlo kk => ?_) k
  have hx : mIn x := ok_h hst
  exact lv_if_le hF.1 hF.2.1 d ht (fun q => absurd (((oi_le hx mIn0)).1 q) h) (fun q => kk ls hl)
theorem ev_icmp_le_t {G : mG} {M : mM} {pc : Nat} {lo : List (Nat × mV)} {st : List mV} {σ τ : mS} {r : mX} {x y : Int} {off : Int} {tgt : Nat} (d : decode (mCo M) pc = .ok (.if_icmp .le off, 3)) (ht : (pc : Int) + off = (tgt : Int)) (h : x ≤ y) (k : Ev G M tgt lo st σ r τ) : Ev G M pc lo (vi y :: vi x :: st) σ r τ := by
  refine Ev.step (fun a b => ⟨ok_t (ok_t a), b⟩) (fun p l e R s m args below meth c H locs cells slots Q ls hF hZ hl hst hlo kk => ?_) k
  have hx : mIn x := ok_h (ok_t hst)
  have hy : mIn y := ok_h hst
  exact lv_icmp_le hF.1 hF.2.1 d ht (fun q => kk ls hl) (fun q => absurd (((oi_le hx hy)).2 h) q)
theorem ev_icmp_le_f {G : mG} {M : mM} {pc : Nat} {lo : List (Nat × mV)} {st : List mV} {σ τ : mS} {r : mX} {x y : Int} {off : Int} (tgt : Nat) (d : decode (mCo M) pc = .ok (.if_icmp .le off, 3)) (ht : (pc : Int) + off = (tgt : Int)) (h : ¬ (x ≤ y)) (k : Ev G M (pc + 3) lo st σ r τ) : Ev G M pc lo (vi y :: vi x :: st) σ r τ := by
  refine Ev.step (fun a b => ⟨ok_t (ok_t a), b⟩) (fun p l e R s m args below meth c H locs cells slots Q ls hF hZ hl hst hlo kk => ?_) k
  have hx : mIn x := ok_h (ok_t hst)
  have hy : mIn y := ok_h hst
  exact lv_icmp_le hF.1 hF.2.1 d ht (fun q => absurd (((oi_le hx hy)).1 q) h) (fun q => kk ls hl)
theorem ev_tableIn {G : mG} {M : mM} {pc : Nat} {lo : List (Nat × mV)} {st : List mV} {σ τ : mS} {r : mX} {x dflt lo9 hi9 off : Int} {offs : Array Int} {len tgt : Nat} (d : decode (mCo M) pc = .ok (.tableswitch dflt lo9 hi9 offs, len)) (h1 : lo9 ≤ x) (h2 : x ≤ hi9) (ho : offs[(x - lo9).toNat]? = some off) (ht : (pc : Int) + off = (tgt : Int)) (k : Ev G M tgt lo st σ r τ) : Ev G M pc lo (vi x :: st) σ r τ := by
  refine Ev.step (fun a b => ⟨ok_t a, b⟩) (fun p l e R s m args below meth c H locs cells slots Q ls hF hZ hl hst hlo kk => ?_) k
  have hx : (Int32.ofInt x).toInt = x := oi_to (ok_h hst)
  exact lv_tableIn hF.1 hF.2.1 d (by rw [hx]; omega) (by rw [hx]; omega) (by rw [hx]; exact ho) ht (kk ls hl)
theorem ev_tableOut {G : mG} {M : mM} {pc : Nat} {lo : List (Nat × mV)} {st : List mV} {σ τ : mS} {r : mX} {x dflt lo9 hi9 : Int} {offs : Array Int} {len tgt : Nat} (d : decode (mCo M) pc = .ok (.tableswitch dflt lo9 hi9 offs, len)) (h : x < lo9 ∨ hi9 < x) (ht : (pc : Int) + dflt = (tgt : Int)) (k : Ev G M tgt lo st σ r τ) : Ev G M pc lo (vi x :: st) σ r τ := by
  refine Ev.step (fun a b => ⟨ok_t a, b⟩) (fun p l e R s m args below meth c H locs cells slots Q ls hF hZ hl hst hlo kk => ?_) k
  have hx : (Int32.ofInt x).toInt = x := oi_to (ok_h hst)
  exact lv_tableOut hF.1 hF.2.1 d (by rw [hx]; exact h) ht (kk ls hl)
