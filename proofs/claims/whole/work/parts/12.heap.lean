/-! rows of the mini logic: fields and arrays -/
theorem ad_ge (G : mG) {r : Nat} (h : 32 ≤ r) : mAD G r = G.1.heap.size + (r - 32) := by
  unfold mAD
  rw [if_neg (by omega), if_neg (by omega)]
theorem ad_inj (G : mG) {a b : Nat} (ha : 32 ≤ a) (hb : 32 ≤ b) (h : mAD G a = mAD G b) : a = b := by
  rw [ad_ge G ha, ad_ge G hb] at h
  omega
def mKd (ty : FieldType) : Nat := match ty with
  | .long => 1
  | .object _ => 2
  | .array _ => 2
  | _ => 0
theorem mTv_i (G : mG) {ty : FieldType} (h : mKd ty = 0) (σ : mS) (r k : Nat) : mTv G ty σ r k = tv G (vi (mI σ r k)) := by
  cases ty <;> first | rfl | (exact absurd h (by simp [mKd]))
theorem mTv_l (G : mG) {ty : FieldType} (h : mKd ty = 1) (σ : mS) (r k : Nat) : mTv G ty σ r k = tv G (vl (mL σ r k)) := by
  cases ty <;> first | rfl | (exact absurd h (by simp [mKd]))
theorem mTv_r (G : mG) {ty : FieldType} (h : mKd ty = 2) (σ : mS) (r k : Nat) : mTv G ty σ r k = tv G (vr (mR σ r k)) := by
  cases ty <;> first | rfl | (exact absurd h (by simp [mKd]))
theorem rz_ge {G : mG} {σ : mS} {H : Heap} (hZ : mRZ G σ H) {r t : Nat} (h : (mH σ r).1 = t + 1) (ht : t ≠ 50) : 32 ≤ r := by
  obtain ⟨-, -, -, -, h5, h6, -⟩ := hZ
  rcases Nat.lt_or_ge r 32 with hr | hr
  · by_cases h1 : r = 1
    · subst h1; omega
    · have := h5 r hr h1; omega
  · exact hr
theorem vwCl_lt {t : Nat} {q : vw_C} (h : vwCl[t]? = some q) : t < 50 := by
  have h1 : t < 9 := (List.getElem?_eq_some_iff.mp h).1
  omega
/-- a row that changes neither heap nor room, what the store holds being known as fit -/
theorem Ev.step2 {G : mG} {M : mM} {pc pc' : Nat} {lo lo' : List (Nat × mV)} {st st' : List mV} {σ τ : mS} {r : mX}
    (hok : (∀ r k, mIn (mI σ r k)) → (∀ v ∈ st, mOk v) → (∀ q ∈ lo, mOk q.2) → (∀ v ∈ st', mOk v) ∧ ∀ q ∈ lo', mOk q.2)
    (hs : ∀ (p : Program) (l : Launch) (e : Env) (R : Room) (s : State) (m : MethodId) (args : Array Value) (below : List Frame) (meth : Method) (c : Code) (H : Heap) (locs : List Loc) (cells slots : Nat) (Q : State → Prop) (ls : Array Slot),
      mFr G M p l R s m args meth c → mRZ G σ H → lv_has ls (mNl M) (lo.map fun q => (q.1, tv G q.2)) → (∀ v ∈ st, mOk v) → (∀ q ∈ lo, mOk q.2) →
      (∀ ls' : Array Slot, lv_has ls' (mNl M) (lo'.map fun q => (q.1, tv G q.2)) → W p l e R s m args below meth c H locs cells slots Q (F0 m pc' ls' (st'.map (tv G)))) → W p l e R s m args below meth c H locs cells slots Q (F0 m pc ls (st.map (tv G))))
    (k : Ev G M pc' lo' st' σ r τ) : Ev G M pc lo st σ r τ := by
  refine ⟨k.1, fun c0 z0 p l e R s m args below meth c H locs Q ls hF hS hK => ?_⟩
  obtain ⟨h1, h2, h3, h4, h5, h6, h7⟩ := hS
  obtain ⟨k1, k2⟩ := hok h1.2.2.1 h4 h5
  exact hs p l e R s m args below meth c H locs _ _ Q ls hF h1 h6 h4 h5 fun ls' hl => k.2 c0 z0 p l e R s m args below meth c H locs Q ls' hF ⟨h1, h2, h3, k1, k2, hl, h7⟩ hK
theorem gf_kn {G : mG} {M : mM} {p : Program} {l : Launch} {R : Room} {s : State} {m : MethodId} {args : Array Value} {meth : Method} {c : Code} (hF : mFr G M p l R s m args meth c) {t : Nat} {q : vw_C} (hq : vwCl[t]? = some q) : u_Kn s q.1 q.2.1 q.2.2 (G.2.2.1 t) (G.2.2.2.1 t) := by
  obtain ⟨-, -, -, -, -, -, -, -, -, hal, -, -, -, -, -, -, hG⟩ := hF
  exact u_Kn_moved hal (hG.1 t q hq)
theorem gf_arr {G : mG} {M : mM} {p : Program} {l : Launch} {R : Room} {s : State} {m : MethodId} {args : Array Value} {meth : Method} {c : Code} (hF : mFr G M p l R s m args meth c) {t : Nat} {ty : FieldType} (hq : mAT[t]? = some ty) : mAC s (G.2.2.2.2.1 t) ty := by
  obtain ⟨-, -, -, -, -, -, -, -, -, hal, -, -, -, -, -, -, hG⟩ := hF
  obtain ⟨kA, comp, h1, h2, h3, h4, h5⟩ := hG.2.1 t ty hq
  obtain ⟨k', hk', he⟩ := hal.2.2 _ _ h1
  exact ⟨k', comp, hk', by rw [he]; exact h2, by rw [hal.findClass]; exact h3, fun C e => by rw [hal.findClass]; exact h4 C e, fun e9 e => by rw [hal.findClass]; exact h5 e9 e⟩
theorem mac_of {s : State} {cA : ClassId} {ty : FieldType} (h : mAC s cA ty) {cell : Cell} (hc : cell.cls = cA) (hv : cell.vm = .none) : s.isArrayOf cell ty := by
  obtain ⟨kA, comp, h1, h2, -⟩ := h
  exact ⟨fun k e => by (rw [hv] at e; cases e), kA, by rw [hc]; exact h1, comp, h2⟩
/-- a field is read -/
theorem ev_getf {G : mG} {M : mM} {pc : Nat} {lo : List (Nat × mV)} {st : List mV} {σ τ : mS} {r : mX} {a t k idx : Nat} {C : String} {T : u_T} {N : Nat} {v : mV} (d : decode (mCo M) pc = .ok (.getfield idx, 3)) (hc : vwCl[t]? = some (C, T, N)) (hk : k < N)
    (hl : Cond.fieldLink (mOw M) idx (T k).1 (T k).2.1 (T k).2.2.1 ∈ mWs M) (hin : ∀ w ∈ u_ws C T N, w ∈ mWs M) (hs : (mH σ a).1 = t + 1) (hv : ∀ G : mG, mTv G (mTY t k) σ a k = tv G v) (hvo : (∀ r k, mIn (mI σ r k)) → mOk v)
    (kk : Ev G M (pc + 3) lo (v :: st) σ r τ) : Ev G M pc lo (vr a :: st) σ r τ := by
  refine Ev.step2 (fun i a b => ⟨ok_c (hvo i) (ok_t a), b⟩) (fun p l e R s m args below meth c H locs cells slots Q ls hF hZ hls hst hlo kw => ?_) kk
  have ha := rz_ge hZ hs (by have := vwCl_lt hc; omega)
  have hkn := gf_kn hF hc
  obtain ⟨-, -, -, h4, -⟩ := hZ
  obtain ⟨-, h5, -⟩ := h4 a t ha hs
  obtain ⟨-, cell, q1, q2, q3, q4⟩ := h5 (vwCl_lt hc) _ hc
  obtain ⟨hS, hfc, kC, hkC, hkind⟩ := hkn
  obtain ⟨cf, kf, fi, f, hi, hsl⟩ := hS k hk
  have hb : (v :: st).map (tv G) = tv G v :: st.map (tv G) := rfl
  have e0 : (vr a :: st).map (tv G) = .ref (mAD G a) :: st.map (tv G) := by rw [List.map_cons, tv_r G (by omega)]
  rw [e0]
  have hw := kw ls hls
  rw [hb] at hw
  exact W.getf hF.1 hF.2.1 hF.2.2.2.1 (hF.2.2.2.2.1 _ hl) hi (u_facts hfc hkC (u_lays hF.2.2.2.2.1 hin hk) hi).1 q1 (by rw [q3]; exact fun h => by cases h) (v := tv G v) (by rw [hsl, q4 k hk]; exact congrArg some (hv G)) rfl rfl d hw
theorem ev_getI {G : mG} {M : mM} {pc : Nat} {lo : List (Nat × mV)} {st : List mV} {σ τ : mS} {r : mX} {a idx : Nat} (t k : Nat) {C : String} {T : u_T} {N : Nat} (d : decode (mCo M) pc = .ok (.getfield idx, 3)) (hc : vwCl[t]? = some (C, T, N)) (hk : k < N)
    (hl : Cond.fieldLink (mOw M) idx (T k).1 (T k).2.1 (T k).2.2.1 ∈ mWs M) (hin : ∀ w ∈ u_ws C T N, w ∈ mWs M) (hty : mKd (mTY t k) = 0) (hs : (mH σ a).1 = t + 1) (kk : Ev G M (pc + 3) lo (vi (mI σ a k) :: st) σ r τ) : Ev G M pc lo (vr a :: st) σ r τ :=
  ev_getf d hc hk hl hin hs (fun G => mTv_i G hty σ a k) (fun h => h a k) kk
theorem ev_getL {G : mG} {M : mM} {pc : Nat} {lo : List (Nat × mV)} {st : List mV} {σ τ : mS} {r : mX} {a idx : Nat} (t k : Nat) {C : String} {T : u_T} {N : Nat} (d : decode (mCo M) pc = .ok (.getfield idx, 3)) (hc : vwCl[t]? = some (C, T, N)) (hk : k < N)
    (hl : Cond.fieldLink (mOw M) idx (T k).1 (T k).2.1 (T k).2.2.1 ∈ mWs M) (hin : ∀ w ∈ u_ws C T N, w ∈ mWs M) (hty : mKd (mTY t k) = 1) (hs : (mH σ a).1 = t + 1) (kk : Ev G M (pc + 3) lo (vl (mL σ a k) :: st) σ r τ) : Ev G M pc lo (vr a :: st) σ r τ :=
  ev_getf d hc hk hl hin hs (fun G => mTv_l G hty σ a k) (fun _ => trivial) kk
theorem ev_getR {G : mG} {M : mM} {pc : Nat} {lo : List (Nat × mV)} {st : List mV} {σ τ : mS} {r : mX} {a idx : Nat} (t k : Nat) {C : String} {T : u_T} {N : Nat} (d : decode (mCo M) pc = .ok (.getfield idx, 3)) (hc : vwCl[t]? = some (C, T, N)) (hk : k < N)
    (hl : Cond.fieldLink (mOw M) idx (T k).1 (T k).2.1 (T k).2.2.1 ∈ mWs M) (hin : ∀ w ∈ u_ws C T N, w ∈ mWs M) (hty : mKd (mTY t k) = 2) (hs : (mH σ a).1 = t + 1) (kk : Ev G M (pc + 3) lo (vr (mR σ a k) :: st) σ r τ) : Ev G M pc lo (vr a :: st) σ r τ :=
  ev_getf d hc hk hl hin hs (fun G => mTv_r G hty σ a k) (fun _ => trivial) kk
/-- an array's cell: the script's, or one of the store -/
theorem rz_arr {G : mG} {M : mM} {p : Program} {l : Launch} {R : Room} {s : State} {m : MethodId} {args : Array Value} {meth : Method} {c : Code} (hF : mFr G M p l R s m args meth c) {σ : mS} {H : Heap} (hZ : mRZ G σ H) {a t : Nat} {ty : FieldType} (hty : mAT[t]? = some ty) (hs : (mH σ a).1 = 51 + t) :
    a ≠ 0 ∧ ∃ cell : Cell, H[mAD G a]? = some cell ∧ s.isArrayOf cell ty ∧ cell.vm ≠ .unknown ∧ cell.slots.size = (mH σ a).2 ∧ ∀ i, i < (mH σ a).2 → cell.slots[i]? = some (mTv G ty σ a i) := by
  have hZ0 := hZ
  obtain ⟨-, h2, -, h4, h5, h6, scr, g1, g2, g3, g4, g5⟩ := hZ
  rcases Nat.lt_or_ge a 32 with hr | hr
  · by_cases h1 : a = 1
    · subst h1
      have ht : t = 0 := by omega
      subst ht
      have e : ty = .int := (Option.some.inj hty).symm
      subst e
      obtain ⟨-, -, -, -, -, -, -, -, -, hal, -, -, -, -, -, -, hG⟩ := hF
      exact ⟨by omega, scr, by rw [show mAD G 1 = G.2.1 from rfl, h2 _ hG.2.2.1]; exact g1, State.isArrayOf_alike hal g2, g3, g4, g5⟩
    · have := h5 a hr h1; omega
  · obtain ⟨-, -, h7⟩ := h4 a (50 + t) hr (by omega)
    have q1 := h7 t rfl ty hty
    exact ⟨by omega, _, q1, mac_of (gf_arr hF hty) rfl rfl, (fun h => by cases h), arrV_size _ _ _, fun i hi => arrV_read _ _ hi⟩
theorem ix_in {i : Int} {n : Nat} (hi : mIn i) (h0 : 0 ≤ i) (hn : i < n) : ¬ (Int32.ofInt i < 0 ∨ n ≤ (Int32.ofInt i).toNatClampNeg) := by
  rw [oi_cl hi]
  rintro (h | h)
  · exact absurd ((oi_lt hi mIn0).1 h) (by omega)
  · omega
theorem ix_cl {i : Int} (hi : mIn i) : (Int32.ofInt i).toNatClampNeg = i.toNat := oi_cl hi
theorem ev_iald {G : mG} {M : mM} {pc : Nat} {lo : List (Nat × mV)} {st : List mV} {σ τ : mS} {r : mX} {a : Nat} {i : Int} (d : decode (mCo M) pc = .ok (.iaload, 1)) (hs : (mH σ a).1 = 51) (h0 : 0 ≤ i) (hn : i < ((mH σ a).2 : Nat)) (kk : Ev G M (pc + 1) lo (vi (mI σ a i.toNat) :: st) σ r τ) : Ev G M pc lo (vi i :: vr a :: st) σ r τ := by
  refine Ev.step2 (fun h a b => ⟨ok_c (v := vi (mI σ _ _)) (h _ _) (ok_t (ok_t a)), b⟩) (fun p l e R s m args below meth c H locs cells slots Q ls hF hZ hls hst hlo kw => ?_) kk
  obtain ⟨ha, cell, q1, q2, q3, q4, q5⟩ := rz_arr (t := 0) hF hZ rfl hs
  have hi : mIn i := ok_h hst
  have hw := kw ls hls
  have e0 : (vi i :: vr a :: st).map (tv G) = .int (Int32.ofInt i) :: .ref (mAD G a) :: st.map (tv G) := by rw [List.map_cons, List.map_cons, tv_r G ha]; rfl
  rw [e0]
  exact W.iald hF.1 hF.2.1 q1 q2 q3 (by rw [q4]; exact ix_in hi h0 hn) (v := tv G (vi (mI σ a i.toNat))) (by rw [ix_cl hi, q5 _ (by omega)]; rfl) rfl rfl d hw
theorem ev_lald {G : mG} {M : mM} {pc : Nat} {lo : List (Nat × mV)} {st : List mV} {σ τ : mS} {r : mX} {a : Nat} {i : Int} (d : decode (mCo M) pc = .ok (.laload, 1)) (hs : (mH σ a).1 = 52) (h0 : 0 ≤ i) (hn : i < ((mH σ a).2 : Nat)) (kk : Ev G M (pc + 1) lo (vl (mL σ a i.toNat) :: st) σ r τ) : Ev G M pc lo (vi i :: vr a :: st) σ r τ := by
  refine Ev.step2 (fun h a b => ⟨ok_c ok_l (ok_t (ok_t a)), b⟩) (fun p l e R s m args below meth c H locs cells slots Q ls hF hZ hls hst hlo kw => ?_) kk
  obtain ⟨ha, cell, q1, q2, q3, q4, q5⟩ := rz_arr (t := 1) hF hZ rfl hs
  have hi : mIn i := ok_h hst
  have hw := kw ls hls
  have e0 : (vi i :: vr a :: st).map (tv G) = .int (Int32.ofInt i) :: .ref (mAD G a) :: st.map (tv G) := by rw [List.map_cons, List.map_cons, tv_r G ha]; rfl
  rw [e0]
  exact W.lald hF.1 hF.2.1 q1 q2 q3 (by rw [q4]; exact ix_in hi h0 hn) (v := tv G (vl (mL σ a i.toNat))) (by rw [ix_cl hi, q5 _ (by omega)]; rfl) rfl rfl d hw
theorem ev_bald {G : mG} {M : mM} {pc : Nat} {lo : List (Nat × mV)} {st : List mV} {σ τ : mS} {r : mX} {a : Nat} {i : Int} (d : decode (mCo M) pc = .ok (.baload, 1)) (hs : (mH σ a).1 = 53 ∨ (mH σ a).1 = 54) (h0 : 0 ≤ i) (hn : i < ((mH σ a).2 : Nat)) (kk : Ev G M (pc + 1) lo (vi (mI σ a i.toNat) :: st) σ r τ) : Ev G M pc lo (vi i :: vr a :: st) σ r τ := by
  refine Ev.step2 (fun h a b => ⟨ok_c (v := vi (mI σ _ _)) (h _ _) (ok_t (ok_t a)), b⟩) (fun p l e R s m args below meth c H locs cells slots Q ls hF hZ hls hst hlo kw => ?_) kk
  have hi : mIn i := ok_h hst
  have hw := kw ls hls
  rcases hs with hs | hs
  · obtain ⟨ha, cell, q1, q2, q3, q4, q5⟩ := rz_arr (t := 2) hF hZ rfl hs
    have e0 : (vi i :: vr a :: st).map (tv G) = .int (Int32.ofInt i) :: .ref (mAD G a) :: st.map (tv G) := by rw [List.map_cons, List.map_cons, tv_r G ha]; rfl
    rw [e0]
    exact W.zald hF.1 hF.2.1 q1 q2 q3 (by rw [q4]; exact ix_in hi h0 hn) (v := tv G (vi (mI σ a i.toNat))) (by rw [ix_cl hi, q5 _ (by omega)]; rfl) rfl rfl d hw
  · obtain ⟨ha, cell, q1, q2, q3, q4, q5⟩ := rz_arr (t := 3) hF hZ rfl hs
    have e0 : (vi i :: vr a :: st).map (tv G) = .int (Int32.ofInt i) :: .ref (mAD G a) :: st.map (tv G) := by rw [List.map_cons, List.map_cons, tv_r G ha]; rfl
    rw [e0]
    exact W.bald hF.1 hF.2.1 q1 q2 q3 (by rw [q4]; exact ix_in hi h0 hn) (v := tv G (vi (mI σ a i.toNat))) (by rw [ix_cl hi, q5 _ (by omega)]; rfl) rfl rfl d hw
theorem ev_aald {G : mG} {M : mM} {pc : Nat} {lo : List (Nat × mV)} {st : List mV} {σ τ : mS} {r : mX} {a : Nat} {i : Int} (d : decode (mCo M) pc = .ok (.aaload, 1)) (hs : 55 ≤ (mH σ a).1 ∧ (mH σ a).1 ≤ 61) (h0 : 0 ≤ i) (hn : i < ((mH σ a).2 : Nat)) (kk : Ev G M (pc + 1) lo (vr (mR σ a i.toNat) :: st) σ r τ) : Ev G M pc lo (vi i :: vr a :: st) σ r τ := by
  refine Ev.step2 (fun h a b => ⟨ok_c ok_r (ok_t (ok_t a)), b⟩) (fun p l e R s m args below meth c H locs cells slots Q ls hF hZ hls hst hlo kw => ?_) kk
  have hi : mIn i := ok_h hst
  have hw := kw ls hls
  have key : ∀ t : Nat, 4 ≤ t → t ≤ 10 → ∃ ty, mAT[t]? = some ty ∧ mKd ty = 2 ∧ ty.isReference = true := by
    intro t h4 h10
    have : t = 4 ∨ t = 5 ∨ t = 6 ∨ t = 7 ∨ t = 8 ∨ t = 9 ∨ t = 10 := by omega
    rcases this with rfl | rfl | rfl | rfl | rfl | rfl | rfl <;> exact ⟨_, rfl, rfl, rfl⟩
  obtain ⟨ty, hty, hkd, href⟩ := key ((mH σ a).1 - 51) (by omega) (by omega)
  obtain ⟨ha, cell, q1, q2, q3, q4, q5⟩ := rz_arr (a := a) hF hZ hty (by omega)
  have e0 : (vi i :: vr a :: st).map (tv G) = .int (Int32.ofInt i) :: .ref (mAD G a) :: st.map (tv G) := by rw [List.map_cons, List.map_cons, tv_r G ha]; rfl
  rw [e0]
  exact W.aald hF.1 hF.2.1 q1 q2 href q3 (by rw [q4]; exact ix_in hi h0 hn) (v := tv G (vr (mR σ a i.toNat))) (by rw [ix_cl hi, q5 _ (by omega), mTv_r G hkd]) rfl rfl d hw
theorem ev_alen {G : mG} {M : mM} {pc : Nat} {lo : List (Nat × mV)} {st : List mV} {σ τ : mS} {r : mX} {a : Nat} (d : decode (mCo M) pc = .ok (.arraylength, 1)) (hs : (mH σ a).1 = 51) (hn : (mH σ a).2 < 2147483648) (kk : Ev G M (pc + 1) lo (vi ((mH σ a).2 : Nat) :: st) σ r τ) : Ev G M pc lo (vr a :: st) σ r τ := by
  refine Ev.step2 (fun h a b => ⟨ok_c (by show mIn _; unfold mIn; omega) (ok_t a), b⟩) (fun p l e R s m args below meth c H locs cells slots Q ls hF hZ hls hst hlo kw => ?_) kk
  obtain ⟨ha, cell, q1, q2, q3, q4, q5⟩ := rz_arr (t := 0) hF hZ rfl hs
  have hw := kw ls hls
  have e0 : (vr a :: st).map (tv G) = .ref (mAD G a) :: st.map (tv G) := by rw [List.map_cons, tv_r G ha]
  rw [e0]
  exact W.alen hF.1 hF.2.1 q1 q2 (n := Int32.ofInt ((mH σ a).2 : Nat)) (by rw [q4, Int32.ofInt_eq_ofNat]) rfl rfl d hw
