/-! rows of the mini logic: what is written, what is made -/
theorem tv_wI (G : mG) (ty : FieldType) (σ : mS) (a k : Nat) (x : Int) (r j : Nat) (h : ¬ (r = a ∧ j = k)) : mTv G ty (mwI σ a k x) r j = mTv G ty σ r j := by
  cases ty <;> first | rfl | exact congrArg (fun z => Value.int (Int32.ofInt z)) (if_neg h)
theorem tv_wL (G : mG) (ty : FieldType) (σ : mS) (a k : Nat) (x : BitVec 64) (r j : Nat) (h : ¬ (r = a ∧ j = k)) : mTv G ty (mwL σ a k x) r j = mTv G ty σ r j := by
  cases ty <;> first | rfl | exact congrArg (fun z => Value.long (Int64.ofBitVec z)) (if_neg h)
theorem tv_wR (G : mG) (ty : FieldType) (σ : mS) (a k : Nat) (x : Nat) (r j : Nat) (h : ¬ (r = a ∧ j = k)) : mTv G ty (mwR σ a k x) r j = mTv G ty σ r j := by
  cases ty <;> first | rfl | exact congrArg (fun z => tv G (vr z)) (if_neg h)
theorem rz_put {G : mG} {σ σ' : mS} {H H' : Heap} {a k : Nat} (hZ : mRZ G σ H) (h1 : σ'.1 = σ.1) (h2 : σ'.2.1 = σ.2.1) (hr : ∀ r j, mIn (mI σ' r j)) (hsame : ∀ (ty : FieldType) (r j : Nat), ¬ (r = a ∧ j = k) → mTv G ty σ' r j = mTv G ty σ r j) (ha : 32 ≤ a) (hI : ∀ j, mI σ' 1 j = mI σ 1 j)
    (hcell : ∀ t, (mH σ a).1 = t + 1 → (t < 50 → mCellO G σ' H' a t) ∧ ∀ t', t = 50 + t' → mCellA G σ' H' a t') (hsz : H'.size = H.size) (ho : ∀ q : Nat, q ≠ mAD G a → H'[q]? = H[q]?) : mRZ G σ' H' := by
  obtain ⟨g1, g2, -, g4, g5, g6, scr, g7, g8, g9, g10, g11⟩ := hZ
  have eH : mH σ' = mH σ := h2
  have eN : mN σ' = mN σ := by show σ'.1.2.2.1 = σ.1.2.2.1; rw [h1]
  have eF : mF σ' = mF σ := by show σ'.1.2.2.2 = σ.1.2.2.2; rw [h1]
  have haD := ad_ge G ha
  refine ⟨⟨by rw [eN, hsz]; exact g1.1, fun hf => by rw [eN, hsz]; exact g1.2 (by rw [← eF]; exact hf)⟩, fun q hq => ?_, hr, fun r t h16 ht => ?_, fun r hr hr1 => by rw [eH]; exact g5 r hr hr1, by rw [eH]; exact g6, scr, g7, g8, g9, by rw [eH]; exact g10, fun i hi => by rw [hI]; exact g11 i (by rw [← eH]; exact hi)⟩
  · rw [ho q (by omega)]
    exact g2 q hq
  · rw [eH] at ht
    obtain ⟨k1, k2, k3⟩ := g4 r t h16 ht
    refine ⟨by rw [eN]; exact k1, ?_⟩
    by_cases hra : r = a
    · subst hra
      exact hcell t ht
    · have hq : mAD G r ≠ mAD G a := fun h => hra (ad_inj G h16 ha h)
      refine ⟨fun h50 q hq2 => ?_, fun t' e ty hty => ?_⟩
      · obtain ⟨m1, m2⟩ := k2 h50 q hq2
        refine ⟨by rw [eH]; exact m1, (m2.kept (ho _ hq)).to fun j _ => (hsame _ r j (fun z => hra z.1)).symm⟩
      · have m1 := k3 t' e ty hty
        rw [ho _ hq, m1, eH]
        exact congrArg (fun f => some (arrV _ _ f)) (funext fun i => (hsame ty r i (fun z => hra z.1)).symm)
/-- a row that writes one slot -/
theorem Ev.write {G : mG} {M : mM} {pc pc' a : Nat} {lo : List (Nat × mV)} {st st' : List mV} {σ σ' τ : mS} {r : mX} (h1 : σ'.1 = σ.1) (ha : ∀ H, mRZ G σ H → 32 ≤ a)
    (hok : (∀ v ∈ st, mOk v) → ∀ v ∈ st', mOk v)
    (hs : ∀ (p : Program) (l : Launch) (e : Env) (R : Room) (s : State) (m : MethodId) (args : Array Value) (below : List Frame) (meth : Method) (c : Code) (H : Heap) (locs : List Loc) (cells slots : Nat) (Q : State → Prop) (ls : Array Slot),
      mFr G M p l R s m args meth c → mRZ G σ H → (∀ v ∈ st, mOk v) → (∀ (H' : Heap) (i : Nat), mRZ G σ' H' → H'.size = H.size → W p l e R s m args below meth c H' (locs ++ [⟨mAD G a, i⟩]) cells slots Q (F0 m pc' ls (st'.map (tv G)))) → W p l e R s m args below meth c H locs cells slots Q (F0 m pc ls (st.map (tv G))))
    (kk : Ev G M pc' lo st' σ' r τ) : Ev G M pc lo st σ r τ := by
  have eC : mC σ' = mC σ := by show σ'.1.1 = σ.1.1; rw [h1]
  have eZ : mZ σ' = mZ σ := by show σ'.1.2.1 = σ.1.2.1; rw [h1]
  refine ⟨by rw [← eC, ← eZ]; exact kk.1, fun c0 z0 p l e R s m args below meth c H locs Q ls hF hS hK => ?_⟩
  obtain ⟨g1, g2, g3, g4, g5, g6, g7, g8, g9⟩ := hS
  have h16 := ha H g1
  refine hs p l e R s m args below meth c H locs _ _ Q ls hF g1 g4 fun H' i hZ' hsz => ?_
  rw [← eC, ← eZ]
  refine kk.2 c0 z0 p l e R s m args below meth c H' _ Q ls hF ⟨hZ', by rw [hsz]; exact g2, fun x hx => ?_, hok g4, g5, g6, by rw [eC]; exact g7, by rw [eZ]; exact g8, g9⟩ hK
  rcases List.mem_append.mp hx with h | h
  · exact g3 x h
  · rw [List.mem_singleton.mp h]
    show G.1.heap.size ≤ mAD G a
    rw [ad_ge G h16]
    omega
theorem mvn_i {x : Int} (G : mG) {ty : FieldType} (h : ty = .int ∨ (ty = .boolean ∧ (x = 0 ∨ x = 1))) : narrow ty (tv G (vi x)) = tv G (vi x) ∧ fits ty (tv G (vi x)) = true := by
  rcases h with rfl | ⟨rfl, rfl | rfl⟩
  · exact ⟨rfl, rfl⟩
  · exact ⟨(by decide +kernel : narrow .boolean (.int (Int32.ofInt 0)) = .int (Int32.ofInt 0)), (by decide +kernel : fits .boolean (.int (Int32.ofInt 0)) = true)⟩
  · exact ⟨(by decide +kernel : narrow .boolean (.int (Int32.ofInt 1)) = .int (Int32.ofInt 1)), (by decide +kernel : fits .boolean (.int (Int32.ofInt 1)) = true)⟩
theorem mvn_r (a : Nat) (G : mG) {ty : FieldType} (h : mKd ty = 2) : narrow ty (tv G (vr a)) = tv G (vr a) ∧ fits ty (tv G (vr a)) = true := by
  by_cases h0 : a = 0
  · subst h0
    cases ty <;> first | exact ⟨rfl, rfl⟩ | (exact absurd h (by simp [mKd]))
  · rw [tv_r G h0]
    cases ty <;> first | exact ⟨rfl, rfl⟩ | (exact absurd h (by simp [mKd]))
/-- a field is written: one that isn't final -/
theorem ev_putf {G : mG} {M : mM} {pc : Nat} {lo : List (Nat × mV)} {st : List mV} {σ σ' τ : mS} {r : mX} {a t k idx : Nat} {C : String} {T : u_T} {N : Nat} {v : mV} (d : decode (mCo M) pc = .ok (.putfield idx, 3)) (hc : vwCl[t]? = some (C, T, N)) (hk : k < N)
    (hl : Cond.fieldLink (mOw M) idx (T k).1 (T k).2.1 (T k).2.2.1 ∈ mWs M) (hin : ∀ w ∈ u_ws C T N, w ∈ mWs M) (hdd : ∀ j, j < N → parseFieldDescriptor (T j).2.2.1 = some (mTY t j)) (hnm : ∀ a, a < N → ∀ b, b < N → a ≠ b → (T a).2.1 ≠ (T b).2.1)
    (hfin : (T k).2.2.2 = false ∨ ((mNm M).name = "<init>" ∧ (T k).1 = mOw M)) (hs : (mH σ a).1 = t + 1)
    (h1 : σ'.1 = σ.1) (h2 : σ'.2.1 = σ.2.1) (hsame : ∀ (G : mG) (ty : FieldType) (r j : Nat), ¬ (r = a ∧ j = k) → mTv G ty σ' r j = mTv G ty σ r j) (hI : ∀ j, 32 ≤ a → mI σ' 1 j = mI σ 1 j) (hr : (∀ r j, mIn (mI σ r j)) → mOk v → ∀ r j, mIn (mI σ' r j)) (hv : ∀ G : mG, mTv G (mTY t k) σ' a k = tv G v) (hn : ∀ G : mG, narrow (mTY t k) (tv G v) = tv G v ∧ fits (mTY t k) (tv G v) = true)
    (kk : Ev G M (pc + 3) lo st σ' r τ) : Ev G M pc lo (v :: vr a :: st) σ r τ := by
  have ht := vwCl_lt hc
  refine Ev.write (a := a) h1 (fun H hZ => rz_ge hZ hs (by omega)) (fun a => ok_t (ok_t a)) (fun p l e R s m args below meth c H locs cells slots Q ls hF hZ hst kw => ?_) kk
  have ha := rz_ge hZ hs (by omega)
  obtain ⟨hS, hfc, kC, hkC, hkind⟩ := gf_kn hF hc
  have hZ0 := hZ
  obtain ⟨-, -, hrg, h4, -⟩ := hZ
  obtain ⟨-, h5, -⟩ := h4 a t ha hs
  obtain ⟨hlen, cell, q1, q2, q3, q4⟩ := h5 ht _ hc
  obtain ⟨cf, kf, fi, f, hi, hsl⟩ := hS k hk
  have hts := hF.2.2.2.2.1
  have hap : ∀ x y, x < N → y < N → x ≠ y → G.2.2.2.1 t x ≠ G.2.2.2.1 t y := by
    intro x y hx hy hne
    obtain ⟨_, _, _, fa, hia, ea⟩ := hS x hx
    obtain ⟨_, _, _, fb, hib, eb⟩ := hS y hy
    rw [← ea, ← eb]
    refine u_apart (u_lays hts hin hx) (u_lays hts hin hy) hia hib ?_
    rw [(State.fieldFound?_type hia (hdd x hx)).1, (State.fieldFound?_type hib (hdd y hy)).1]
    exact hnm x hx y hy hne
  have hst9 := (u_facts hfc hkC (u_lays hts hin hk) hi).1
  have hlay := hts _ (hin _ (u_in_lay hk))
  have e0 : (v :: vr a :: st).map (tv G) = tv G v :: .ref (mAD G a) :: st.map (tv G) := by rw [List.map_cons, List.map_cons, tv_r G (by omega)]
  rw [e0]
  have fin : ∀ H' : Heap, H'[mAD G a]? = some (cell.setSlot (G.2.2.2.1 t k) (tv G v)) → H'.size = H.size → (∀ q : Nat, q ≠ mAD G a → H'[q]? = H[q]?) → mRZ G σ' H' := by
    intro H' e1 e2 e3
    refine rz_put hZ0 h1 h2 (hr hrg (ok_h hst)) (hsame G) ha (fun j => hI j ha) (fun t2 ht2 => ?_) e2 e3
    have : t2 = t := by omega
    subst this
    refine ⟨fun _ q hq => ?_, fun t' e => by omega⟩
    cases hc.symm.trans hq
    refine ⟨by show (σ'.2.1 a).2 = N; rw [h2]; exact hlen, _, e1, q2, q3, fun j hj => ?_⟩
    rw [t_set q4 hap hk (tv G v) j hj]
    unfold updV
    by_cases hjk : j = k
    · subst hjk
      rw [if_pos rfl]
      exact congrArg some (hv G).symm
    · rw [if_neg hjk]
      exact congrArg some (hsame G _ a j (fun z => hjk z.2)).symm
  by_cases hf2 : (T k).2.2.2 = true
  · rcases hfin with hf | ⟨hin2, hdecl⟩
    · rw [hf] at hf2; cases hf2
    unfold u_lay at hlay
    rw [if_pos hf2] at hlay
    have hcf : m.cls = cf := by
      obtain ⟨_, _, c', _, _, _, -, -, hf', -, -, -, hown2, -⟩ := Cond.laysFinal_spec hlay
      have e1 : c' = cf := by have := hi.symm.trans hf'; simp at this; exact this.1.symm
      rw [hdecl] at hown2
      rw [← e1]; exact Option.some.inj (hF.2.2.2.1.symm.trans hown2)
    have h6 := u_fits hfc hkC hkind (Or.inr hlay) hi (hdd k hk) (hn G).1 (hn G).2
    refine W.putFinK hF.1 hF.2.1 hF.2.2.2.1 (hts _ hl) hi hst9 hcf (hF.2.2.2.2.2.2.2.1 hin2) (by rw [q2]; exact h6) q1 q3 (by rw [hsl]; exact k2_hasslot (q4 k hk)) rfl rfl d fun H' e1 e2 e3 => ?_
    rw [hsl] at e1
    exact kw H' _ (fin H' e1 e2 e3) e2
  · unfold u_lay at hlay
    rw [if_neg hf2] at hlay
    have h6 := u_store hfc hkC hkind hlay hi (hdd k hk) (hn G).1 (hn G).2
    refine W.putK hF.1 hF.2.1 (f := f) ⟨hF.2.2.2.1, hts _ hl, ⟨_, _, _, hi⟩, hst9⟩ (by rw [q2]; exact h6) q1 q3 (by rw [hsl]; exact k2_hasslot (q4 k hk)) rfl rfl d fun H' e1 e2 e3 => ?_
    rw [hsl] at e1
    exact kw H' _ (fin H' e1 e2 e3) e2
theorem in_u2 {f : Nat → Nat → Int} {a k : Nat} {x : Int} (h : ∀ r j, mIn (f r j)) (hx : mIn x) : ∀ r j, mIn (u2 f a k x r j) := by
  intro r j
  unfold u2
  split
  · exact hx
  · exact h r j
theorem ev_putI {G : mG} {M : mM} {pc : Nat} {lo : List (Nat × mV)} {st : List mV} {σ τ : mS} {r : mX} {a idx : Nat} {x : Int} (t k : Nat) {C : String} {T : u_T} {N : Nat} (d : decode (mCo M) pc = .ok (.putfield idx, 3)) (hc : vwCl[t]? = some (C, T, N)) (hk : k < N)
    (hl : Cond.fieldLink (mOw M) idx (T k).1 (T k).2.1 (T k).2.2.1 ∈ mWs M) (hin : ∀ w ∈ u_ws C T N, w ∈ mWs M) (hdd : ∀ j, j < N → parseFieldDescriptor (T j).2.2.1 = some (mTY t j)) (hnm : ∀ a, a < N → ∀ b, b < N → a ≠ b → (T a).2.1 ≠ (T b).2.1)
    (hfin : (T k).2.2.2 = false ∨ ((mNm M).name = "<init>" ∧ (T k).1 = mOw M)) (hty : mTY t k = .int ∨ (mTY t k = .boolean ∧ (x = 0 ∨ x = 1))) (hs : (mH σ a).1 = t + 1)
    (kk : Ev G M (pc + 3) lo st (mwI σ a k x) r τ) : Ev G M pc lo (vi x :: vr a :: st) σ r τ :=
  ev_putf (σ' := mwI σ a k x) d hc hk hl hin hdd hnm hfin hs rfl rfl (fun G ty r j h => tv_wI G ty σ a k x r j h) (fun j h => if_neg (by omega)) (fun h hx => in_u2 h hx)
    (fun G => by rw [mTv_i G (by rcases hty with h | ⟨h, -⟩ <;> rw [h] <;> rfl)]; show tv G (vi (u2 σ.2.2.1 a k x a k)) = _; unfold u2; rw [if_pos ⟨rfl, rfl⟩]) (fun G => mvn_i G hty) kk
theorem ev_putR {G : mG} {M : mM} {pc : Nat} {lo : List (Nat × mV)} {st : List mV} {σ τ : mS} {r : mX} {a idx : Nat} {x : Nat} (t k : Nat) {C : String} {T : u_T} {N : Nat} (d : decode (mCo M) pc = .ok (.putfield idx, 3)) (hc : vwCl[t]? = some (C, T, N)) (hk : k < N)
    (hl : Cond.fieldLink (mOw M) idx (T k).1 (T k).2.1 (T k).2.2.1 ∈ mWs M) (hin : ∀ w ∈ u_ws C T N, w ∈ mWs M) (hdd : ∀ j, j < N → parseFieldDescriptor (T j).2.2.1 = some (mTY t j)) (hnm : ∀ a, a < N → ∀ b, b < N → a ≠ b → (T a).2.1 ≠ (T b).2.1)
    (hfin : (T k).2.2.2 = false ∨ ((mNm M).name = "<init>" ∧ (T k).1 = mOw M)) (hty : mKd (mTY t k) = 2) (hs : (mH σ a).1 = t + 1)
    (kk : Ev G M (pc + 3) lo st (mwR σ a k x) r τ) : Ev G M pc lo (vr x :: vr a :: st) σ r τ :=
  ev_putf (σ' := mwR σ a k x) d hc hk hl hin hdd hnm hfin hs rfl rfl (fun G ty r j h => tv_wR G ty σ a k x r j h) (fun j h => rfl) (fun h _ => h)
    (fun G => by rw [mTv_r G hty]; show tv G (vr (u2 σ.2.2.2.2 a k x a k)) = _; unfold u2; rw [if_pos ⟨rfl, rfl⟩]) (fun G => mvn_r x G hty) kk
/-- an array's slot is written -/
theorem rz_put2 {G : mG} {σ σ' : mS} {H H' : Heap} {a k t : Nat} {ty : FieldType} {v : Value} {cell : Cell} (hZ : mRZ G σ H) (hty : mAT[t]? = some ty) (hs : (mH σ a).1 = 51 + t) (ha : 32 ≤ a) (h1 : σ'.1 = σ.1) (h2 : σ'.2.1 = σ.2.1) (hr : ∀ r j, mIn (mI σ' r j)) (hsame : ∀ (ty : FieldType) (r j : Nat), ¬ (r = a ∧ j = k) → mTv G ty σ' r j = mTv G ty σ r j) (hI : ∀ j, mI σ' 1 j = mI σ 1 j) (hv : mTv G ty σ' a k = v)
    (q1 : H[mAD G a]? = some cell) (e1 : H'[mAD G a]? = some (cell.setSlot k v)) (e2 : H'.size = H.size) (e3 : ∀ q : Nat, q ≠ mAD G a → H'[q]? = H[q]?) : mRZ G σ' H' := by
  refine rz_put hZ h1 h2 hr hsame ha hI (fun t2 ht2 => ?_) e2 e3
  refine ⟨fun h50 => by omega, fun t' e => ?_⟩
  have : t' = t := by omega
  subst this
  intro ty2 hty2
  cases hty.symm.trans hty2
  obtain ⟨-, -, -, h4, -⟩ := hZ
  obtain ⟨-, -, h5⟩ := h4 a (50 + t') ha (by omega)
  have m1 := h5 t' rfl ty hty
  cases q1.symm.trans m1
  have eH : mH σ' = mH σ := h2
  rw [e1, eH, arrV_store]
  refine congrArg (fun f => some (arrV _ _ f)) (funext fun i => ?_)
  unfold updV
  by_cases hik : i = k
  · subst hik
    rw [if_pos rfl, hv]
  · rw [if_neg hik, hsame ty a i (fun z => hik z.2)]
theorem ev_iast {G : mG} {M : mM} {pc : Nat} {lo : List (Nat × mV)} {st : List mV} {σ τ : mS} {r : mX} {a : Nat} {i x : Int} (d : decode (mCo M) pc = .ok (.iastore, 1)) (hs : (mH σ a).1 = 51) (ha : 32 ≤ a) (h0 : 0 ≤ i) (hn : i < ((mH σ a).2 : Nat)) (kk : Ev G M (pc + 1) lo st (mwI σ a i.toNat x) r τ) : Ev G M pc lo (vi x :: vi i :: vr a :: st) σ r τ := by
  refine Ev.write (a := a) (σ' := mwI σ a i.toNat x) rfl (fun H hZ => ha) (fun a => ok_t (ok_t (ok_t a))) (fun p l e R s m args below meth c H locs cells slots Q ls hF hZ hst kw => ?_) kk
  obtain ⟨ha0, cell, q1, q2, q3, q4, q5⟩ := rz_arr (t := 0) hF hZ rfl hs
  have hi : mIn i := ok_h (ok_t hst)
  have e0 : (vi x :: vi i :: vr a :: st).map (tv G) = .int (Int32.ofInt x) :: .int (Int32.ofInt i) :: .ref (mAD G a) :: st.map (tv G) := by rw [List.map_cons, List.map_cons, List.map_cons, tv_r G ha0]; rfl
  rw [e0]
  refine W.iast hF.1 hF.2.1 q1 q2 q3 (by rw [q4]; exact ix_in hi h0 hn) rfl rfl d fun H' e1 e2 e3 => ?_
  rw [ix_cl hi] at e1
  exact kw H' _ (rz_put2 (t := 0) hZ rfl hs ha rfl rfl (in_u2 hZ.2.2.1 (ok_h hst)) (fun ty r j h => tv_wI G ty σ a _ x r j h) (fun j => if_neg (by omega)) (by show Value.int (Int32.ofInt (u2 σ.2.2.1 a _ x a _)) = _; unfold u2; rw [if_pos ⟨rfl, rfl⟩]) q1 e1 e2 e3) e2
theorem ev_last {G : mG} {M : mM} {pc : Nat} {lo : List (Nat × mV)} {st : List mV} {σ τ : mS} {r : mX} {a : Nat} {i : Int} {x : BitVec 64} (d : decode (mCo M) pc = .ok (.lastore, 1)) (hs : (mH σ a).1 = 52) (ha : 32 ≤ a) (h0 : 0 ≤ i) (hn : i < ((mH σ a).2 : Nat)) (kk : Ev G M (pc + 1) lo st (mwL σ a i.toNat x) r τ) : Ev G M pc lo (vl x :: vi i :: vr a :: st) σ r τ := by
  refine Ev.write (a := a) (σ' := mwL σ a i.toNat x) rfl (fun H hZ => ha) (fun a => ok_t (ok_t (ok_t a))) (fun p l e R s m args below meth c H locs cells slots Q ls hF hZ hst kw => ?_) kk
  obtain ⟨ha0, cell, q1, q2, q3, q4, q5⟩ := rz_arr (t := 1) hF hZ rfl hs
  have hi : mIn i := ok_h (ok_t hst)
  have e0 : (vl x :: vi i :: vr a :: st).map (tv G) = .long (Int64.ofBitVec x) :: .int (Int32.ofInt i) :: .ref (mAD G a) :: st.map (tv G) := by rw [List.map_cons, List.map_cons, List.map_cons, tv_r G ha0]; rfl
  rw [e0]
  refine W.last hF.1 hF.2.1 q1 q2 q3 (by rw [q4]; exact ix_in hi h0 hn) rfl rfl d fun H' e1 e2 e3 => ?_
  rw [ix_cl hi] at e1
  exact kw H' _ (rz_put2 (t := 1) hZ rfl hs ha rfl rfl hZ.2.2.1 (fun ty r j h => tv_wL G ty σ a _ x r j h) (fun j => rfl) (by show Value.long (Int64.ofBitVec (u2 σ.2.2.2.1 a _ x a _)) = _; unfold u2; rw [if_pos ⟨rfl, rfl⟩]) q1 e1 e2 e3) e2
theorem nb_bool {x : Int} (h : x = 0 ∨ x = 1) : narrow .boolean (.int (Int32.ofInt x)) = .int (Int32.ofInt x) := by
  rcases h with rfl | rfl <;> decide +kernel
theorem nb_byte {x : Int} (h : -128 ≤ x ∧ x < 128) : narrow .byte (.int (Int32.ofInt x)) = .int (Int32.ofInt x) := by
  show Value.int (Int32.ofInt x).toInt8.toInt32 = _
  congr 1
  apply Int32.toInt_inj.1
  rw [Int8.toInt_toInt32, Int32.toInt_toInt8, oi_to ⟨by omega, by omega⟩]
  exact Int.bmod_eq_of_le (by omega) (by omega)
theorem ev_bast {G : mG} {M : mM} {pc : Nat} {lo : List (Nat × mV)} {st : List mV} {σ τ : mS} {r : mX} {a : Nat} {i x : Int} (d : decode (mCo M) pc = .ok (.bastore, 1)) (hs : ((mH σ a).1 = 53 ∧ (x = 0 ∨ x = 1)) ∨ ((mH σ a).1 = 54 ∧ -128 ≤ x ∧ x < 128)) (h0 : 0 ≤ i) (hn : i < ((mH σ a).2 : Nat)) (kk : Ev G M (pc + 1) lo st (mwI σ a i.toNat x) r τ) : Ev G M pc lo (vi x :: vi i :: vr a :: st) σ r τ := by
  have h16 : ∀ H, mRZ G σ H → 32 ≤ a := fun H hZ => by rcases hs with hs | hs <;> exact rz_ge hZ hs.1 (by omega)
  refine Ev.write (a := a) (σ' := mwI σ a i.toNat x) rfl h16 (fun a => ok_t (ok_t (ok_t a))) (fun p l e R s m args below meth c H locs cells slots Q ls hF hZ hst kw => ?_) kk
  have ha := h16 H hZ
  have hi : mIn i := ok_h (ok_t hst)
  rcases hs with ⟨hs, hx⟩ | ⟨hs, hx⟩
  · obtain ⟨ha0, cell, q1, q2, q3, q4, q5⟩ := rz_arr (t := 2) hF hZ rfl hs
    have e0 : (vi x :: vi i :: vr a :: st).map (tv G) = .int (Int32.ofInt x) :: .int (Int32.ofInt i) :: .ref (mAD G a) :: st.map (tv G) := by rw [List.map_cons, List.map_cons, List.map_cons, tv_r G ha0]; rfl
    rw [e0]
    refine W.zast hF.1 hF.2.1 q1 q2 q3 (by rw [q4]; exact ix_in hi h0 hn) rfl rfl d fun H' e1 e2 e3 => ?_
    rw [ix_cl hi, nb_bool hx] at e1
    exact kw H' _ (rz_put2 (t := 2) hZ rfl hs ha rfl rfl (in_u2 hZ.2.2.1 (ok_h hst)) (fun ty r j h => tv_wI G ty σ a _ x r j h) (fun j => if_neg (by omega)) (by show Value.int (Int32.ofInt (u2 σ.2.2.1 a _ x a _)) = _; unfold u2; rw [if_pos ⟨rfl, rfl⟩]) q1 e1 e2 e3) e2
  · obtain ⟨ha0, cell, q1, q2, q3, q4, q5⟩ := rz_arr (t := 3) hF hZ rfl hs
    have e0 : (vi x :: vi i :: vr a :: st).map (tv G) = .int (Int32.ofInt x) :: .int (Int32.ofInt i) :: .ref (mAD G a) :: st.map (tv G) := by rw [List.map_cons, List.map_cons, List.map_cons, tv_r G ha0]; rfl
    rw [e0]
    refine W.bast hF.1 hF.2.1 q1 q2 q3 (by rw [q4]; exact ix_in hi h0 hn) rfl rfl d fun H' e1 e2 e3 => ?_
    rw [ix_cl hi, nb_byte hx] at e1
    exact kw H' _ (rz_put2 (t := 3) hZ rfl hs ha rfl rfl (in_u2 hZ.2.2.1 (ok_h hst)) (fun ty r j h => tv_wI G ty σ a _ x r j h) (fun j => if_neg (by omega)) (by show Value.int (Int32.ofInt (u2 σ.2.2.1 a _ x a _)) = _; unfold u2; rw [if_pos ⟨rfl, rfl⟩]) q1 e1 e2 e3) e2
/-- a reference to an object into an array of its class -/
def mCT : Nat → Nat
  | 55 => 6
  | 56 => 5
  | 57 => 2
  | _ => 4
theorem mCT_at {t : Nat} (h : 55 ≤ t) (h2 : t ≤ 58) : ∃ (C : String) (T : u_T) (N : Nat), vwCl[mCT t - 1]? = some (C, T, N) ∧ mAT[t - 51]? = some (.object C) := by
  have : t = 55 ∨ t = 56 ∨ t = 57 ∨ t = 58 := by omega
  rcases this with rfl | rfl | rfl | rfl
  · exact ⟨RX5, TX5, 11, rfl, rfl⟩
  · exact ⟨RX4, TX4, 5, rfl, rfl⟩
  · exact ⟨RX1, TX1, 2, rfl, rfl⟩
  · exact ⟨RX3, TX3, 5, rfl, rfl⟩
theorem ev_aast {G : mG} {M : mM} {pc : Nat} {lo : List (Nat × mV)} {st : List mV} {σ τ : mS} {r : mX} {a x : Nat} {i : Int} (d : decode (mCo M) pc = .ok (.aastore, 1)) (hs : 55 ≤ (mH σ a).1 ∧ (mH σ a).1 ≤ 58) (hx : (mH σ x).1 = mCT (mH σ a).1) (h0 : 0 ≤ i) (hn : i < ((mH σ a).2 : Nat)) (kk : Ev G M (pc + 1) lo st (mwR σ a i.toNat x) r τ) : Ev G M pc lo (vr x :: vi i :: vr a :: st) σ r τ := by
  have h16 : ∀ H, mRZ G σ H → 32 ≤ a := fun H hZ => rz_ge (t := (mH σ a).1 - 1) hZ (by omega) (by omega)
  refine Ev.write (a := a) (σ' := mwR σ a i.toNat x) rfl h16 (fun a => ok_t (ok_t (ok_t a))) (fun p l e R s m args below meth c H locs cells slots Q ls hF hZ hst kw => ?_) kk
  have ha := h16 H hZ
  obtain ⟨C, T, N, hc, hty⟩ := mCT_at hs.1 hs.2
  have ht50 := vwCl_lt hc
  have hi : mIn i := ok_h (ok_t hst)
  obtain ⟨kA, comp, c1, c2, c3, c4, -⟩ := gf_arr hF hty
  have hm1 : mCT (mH σ a).1 = mCT (mH σ a).1 - 1 + 1 := by
    have : (mH σ a).1 = 55 ∨ (mH σ a).1 = 56 ∨ (mH σ a).1 = 57 ∨ (mH σ a).1 = 58 := by omega
    rcases this with h | h | h | h <;> rw [h] <;> rfl
  have hx16 := rz_ge hZ (hx.trans hm1) (by omega)
  have hZ0 := hZ
  obtain ⟨-, -, -, h4, -⟩ := hZ
  obtain ⟨-, h5, -⟩ := h4 x _ hx16 (hx.trans hm1)
  obtain ⟨-, cv, v1, v2, v3, -⟩ := h5 ht50 _ hc
  obtain ⟨-, -, h6⟩ := h4 a ((mH σ a).1 - 1) ha (by omega)
  have q1 := h6 ((mH σ a).1 - 51) (by omega) _ hty
  have hkn := gf_kn hF hc
  obtain ⟨hS, hfc, kC, hkC, hkind⟩ := hkn
  have hcomp := c4 C rfl
  have hcc : comp = G.2.2.1 (mCT (mH σ a).1 - 1) := Option.some.inj (hcomp.symm.trans hfc)
  have e0 : (vr x :: vi i :: vr a :: st).map (tv G) = .ref (mAD G x) :: .int (Int32.ofInt i) :: .ref (mAD G a) :: st.map (tv G) := by rw [List.map_cons, List.map_cons, List.map_cons, tv_r G (by omega), tv_r G (a := a) (by omega)]; rfl
  rw [e0]
  refine W.aast (k := kA) (kv := kC) (kcomp := kC) (comp := comp) (t := .object C) hF.1 hF.2.1 q1 (fun q h => by cases h) (fun h => by cases h) c1 c2 rfl (by rw [hcc]; exact hkC) ?_ v1 (fun q h => by rw [v3] at h; cases h) (by rw [v2]; exact hkC) (by rw [v2, hcc]; exact va_assign ⟨hfc, kC, hkC, hkind⟩) rfl rfl d fun H' e1 e2 e3 => ?_
  · rw [arrV_size, ix_cl hi]
    refine ⟨fun h => absurd ((oi_lt hi mIn0).1 h) (by omega), by omega⟩
  rw [ix_cl hi] at e1
  exact kw H' _ (rz_put2 (t := (mH σ a).1 - 51) hZ0 hty (by omega) ha rfl rfl hZ0.2.2.1 (fun ty r j h => tv_wR G ty σ a _ x r j h) (fun j => rfl) (by show tv G (vr (u2 σ.2.2.2.2 a _ x a _)) = _; unfold u2; rw [if_pos ⟨rfl, rfl⟩, tv_r G (by omega)]) q1 e1 e2 e3) e2
