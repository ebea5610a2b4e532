/-! the mini logic: a method's contract out of its walk; calls; what is thrown -/
theorem nb_char {x : Int} (h : 0 ≤ x ∧ x < 65536) : narrow .char (.int (Int32.ofInt x)) = .int (Int32.ofInt x) := by
  show Value.int (Int32.ofInt x).toUInt32.toUInt16.toUInt32.toInt32 = _
  congr 1
  apply Int32.toBitVec_inj.1
  apply BitVec.eq_of_toNat_eq
  have e1 : ((Int32.ofInt x).toUInt32.toUInt16.toUInt32.toInt32).toBitVec = BitVec.setWidth 32 (BitVec.setWidth 16 (Int32.ofInt x).toBitVec) := rfl
  have e2 : (Int32.ofInt x).toBitVec.toNat = x.toNat := by
    rw [Int32.toBitVec_ofInt, BitVec.toNat_ofInt]
    omega
  rw [e1, BitVec.toNat_setWidth, BitVec.toNat_setWidth, e2]
  omega
def mWd (M : mM) : List Cond := (match mHh M with
  | [] => Cond.code (mNm M) (mCo M) (mNl M) (mRt M)
  | hh => Cond.codeWith (mNm M) (mCo M) (mNl M) (mRt M) hh) :: mW0
def mRm (M : mM) (c z : Nat) : Room := { frames := mRf M, cells := c, slots := z, locals := mRl M }
/-- what holds at a method's start -/
def mU (G : mG) (l : Launch) (as : List mV) (σ : mS) (U : State) : Prop := G.1.vm.Alike U.vm ∧ mRZ G σ U.heap ∧ (∀ v ∈ as, mOk v) ∧ mNg G U ∧ mGF G ∧ l.stackTraces = false
def mQc (G : mG) (r : mX) (τ : mS) : Array Value → State → Outcome → State → Prop := fun _ st o t => ∃ v : Option mV, r = .inl v ∧ o = .returned (v.map (tv G)) ∧ (∀ w, v = some w → mOk w) ∧ mRZ G τ t.heap ∧ st.heap.size ≤ t.heap.size
def mXC (G : mG) (r : mX) (τ : mS) : String → State → State → Prop := fun E st t => ∃ k : Nat, r = .inr k ∧ E = mEN k ∧ mRZ G τ t.heap ∧ st.heap.size ≤ t.heap.size
def mFx (G : mG) : Addr → Prop := fun q => G.1.heap.size ≤ q
/-- the contract: on these arguments over this store, r and the store τ -/
def Ct (G : mG) (M : mM) (as : List mV) (σ : mS) (r : mX) (τ : mS) : Prop :=
  (mC σ ≤ mC τ ∧ mZ σ ≤ mZ τ) ∧ ∀ l : Launch, vx_Met l (mNm M) (mWd M) (mRm M (mC τ - mC σ) (mZ τ - mZ σ)) (va_Pc (as.map (tv G)) (mU G l as σ)) (mQc G r τ) (mXC G r τ) (mC τ - mC σ) (mZ τ - mZ σ) (mFx G)
theorem Ct.met {G : mG} {M : mM} {as : List mV} {σ τ : mS} {v : Option mV} (h : Ct G M as σ (.inl v) τ) (l : Launch) :
    Met l (mNm M) (mWd M) (mRm M (mC τ - mC σ) (mZ τ - mZ σ)) (va_Pc (as.map (tv G)) (mU G l as σ)) (mQc G (.inl v) τ) (mC τ - mC σ) (mZ τ - mZ σ) (mFx G) := by
  intro p e ha hc hk s m args below hf happ hP hK
  obtain ⟨k, o, h1, h2, h3, hQ⟩ := h.2 l p e ha hc hk s m args below hf happ hP hK
  refine ⟨k, o, h1, h2, h3, ?_⟩
  rcases hQ with hQ | ⟨q, -, E, ce, L, ⟨k9, e9, -⟩, -⟩
  · exact hQ
  · cases e9
def mLo : Nat → List mV → List (Nat × mV)
  | _, [] => []
  | i, v :: vs => (i, v) :: mLo (if mCat v = 2 then i + 2 else i + 1) vs
theorem mLo_tv (G : mG) : ∀ (as : List mV) (i : Nat), (mLo i as).map (fun q => (q.1, tv G q.2)) = lv_args i (as.map (tv G))
  | [], _ => rfl
  | v :: vs, i => by
    show (i, tv G v) :: (mLo _ vs).map _ = (i, tv G v) :: lv_args (if (tv G v).category = 2 then i + 2 else i + 1) (vs.map (tv G))
    rw [tv_cat, mLo_tv G vs]
theorem mLo_ok {as : List mV} (h : ∀ v ∈ as, mOk v) : ∀ (i : Nat), ∀ q ∈ mLo i as, mOk q.2 := by
  induction as with
  | nil => intro i q hq; cases hq
  | cons v vs ih =>
    intro i q hq
    rcases List.mem_cons.mp hq with rfl | hq
    · exact ok_h h
    · exact ih (ok_t h) _ q hq
def mSl (as : List mV) : Nat := (as.map mCat).sum
theorem mSl_tv (G : mG) (as : List mV) : (lg_sl (as.map (tv G))).length = mSl as := by
  induction as with
  | nil => rfl
  | cons v vs ih =>
    have h1 : lg_sl ((v :: vs).map (tv G)) = (if (tv G v).category = 2 then [Slot.val (tv G v), Slot.second] else [Slot.val (tv G v)]) ++ lg_sl (vs.map (tv G)) := by simp [lg_sl]
    rw [h1, List.length_append, ih, tv_cat]
    show _ = mCat v + mSl vs
    have : mCat v = 1 ∨ mCat v = 2 := by
      rcases v with x | a | w
      · exact Or.inl rfl
      · exact Or.inl rfl
      · exact Or.inr rfl
    rcases this with h | h <;> rw [h] <;> simp
theorem fr_end {p : Program} {l : Launch} {e : Env} {R : Room} {s : State} {m : MethodId} {args : Array Value} {below : List Frame} {meth : Method} {c : Code} {G : mG} {M : mM} {σ τ : mS} {r : mX} (hF : mFr G M p l R s m args meth c) (hZ0 : mRZ G σ s.heap) (h1 : mC σ ≤ mC τ) (h2 : mZ σ ≤ mZ τ) :
    mK G M p l e R s m args below meth c (vx_MQ below (mQc G r τ) (mXC G r τ) args s (mC τ - mC σ) (mZ τ - mZ σ) (mFx G)) (mC σ) (mZ σ) r τ := by
  cases r with
  | inr E => exact ⟨_, _, _, _, _, rfl, fun t _ hZ hs => ⟨E, rfl, rfl, hZ, hs⟩, fun x hx => hx, by omega, by omega⟩
  | inl v =>
    intro H locs ls pc hZ hs hl hv hvt hd
    have hlocks := hF.2.2.2.2.2.1
    have hr := hF.2.2.2.2.2.2.1
    have hq : ∀ t : State, t.heap = H → mQc G (.inl v) τ args s (.returned (v.map (tv G))) t := fun t ht => ⟨v, rfl, rfl, hv, by rw [ht]; exact hZ, by rw [ht]; exact hs⟩
    refine vx_ret ?_
    unfold mRi at hd
    unfold mVt at hvt
    generalize mRt M = ty at hd hr hvt
    split at hvt
    · exact W.vret hF.1 hF.2.1 hr (fun t ht _ => hq t ht) hl hd
    · exact W.iret hF.1 hF.2.1 hr (fun t ht _ => hq t ht) hl hd
    · exact W.zret hF.1 hF.2.1 hr (nb_bool hvt) (fun t ht _ => hq t ht) hl hd
    · exact W.zret hF.1 hF.2.1 hr (nb_byte hvt) (fun t ht _ => hq t ht) hl hd
    · exact W.zret hF.1 hF.2.1 hr (nb_char hvt) (fun t ht _ => hq t ht) hl hd
    · exact W.lret hF.1 hF.2.1 hr (fun t ht _ => hq t ht) hl hd
    · exact hvt.elim
/-- the contract out of the walk: a method without handlers -/
theorem ct_of {G : mG} {M : mM} {as : List mV} {lo : List (Nat × mV)} {σ τ : mS} {r : mX} (hh : mHh M = []) (hp : plainName (mNm M).cls = true) (hc : (mNm M).cls = mOw M) (hn : mSl as ≤ mNl M) (e : mLo 0 as = lo) (h : Ev G M 0 lo [] σ r τ) : Ct G M as σ r τ := by
  subst e
  refine ⟨h.1, fun l => ?_⟩
  have hw : mWd M = Cond.code (mNm M) (mCo M) (mNl M) (mRt M) :: mW0 := by unfold mWd; rw [hh]
  refine vx_ofW hp hw ?_
  intro p e s m args below meth c s₁ B hml hex hP
  obtain ⟨rfl, hal, hZ, hok, hnk, hG, hl⟩ := hP
  have hts := atoms_spec (ws := mWd M) B.pre
  have hF : mFr G M p l (headSpec (mWd M) (mRm M (mC τ - mC σ) (mZ τ - mZ σ))).room s m (as.map (tv G)).toArray meth c :=
    ⟨B.exec, B.bytes, hml, hc ▸ findClass_of_methodNamed B.named, fun w hw9 => hts w (by rw [hw]; exact List.mem_cons_of_mem _ hw9), B.notSynchronized, B.returns, fun h9 => (name_of_methodNamed B.named B.method).1.trans h9, by rw [hh]; exact List.eq_nil_iff_forall_not_mem.mpr fun x hx => hex x hx, hal, Nat.le_refl _, Nat.le_refl _, hl, Nat.le_trans (Nat.le_add_right _ _) hZ.1.1, hZ.2.1, hnk, hG⟩
  rw [lg_entry_eq]
  have hls := lv_entry (as.map (tv G)) (n := mNl M) (by rw [mSl_tv]; exact hn)
  rw [← mLo_tv] at hls
  have h9 := h.2 (mC σ) (mZ σ) p l e _ s m _ below meth c s.heap [] _ _ hF ⟨hZ, Nat.le_refl _, fun x hx => (by cases hx), fun v hv => (by cases hv), mLo_ok hok 0, hls, Nat.le_refl _, Nat.le_refl _, (by show mC τ ≤ mC σ + (mC τ - mC σ); omega), (by show mZ τ ≤ mZ σ + (mZ τ - mZ σ); omega)⟩ (fr_end hF hZ h.1.1 h.1.2)
  rw [Nat.sub_self, Nat.sub_self] at h9
  exact h9
/-- .. with handlers -/
theorem ct_ofH {G : mG} {M : mM} {as : List mV} {lo : List (Nat × mV)} {σ τ : mS} {r : mX} {q0 : Nat × Nat × Nat × Nat} {hs0 : List (Nat × Nat × Nat × Nat)} (hh : mHh M = q0 :: hs0) (hp : plainName (mNm M).cls = true) (hc : (mNm M).cls = mOw M) (hn : mSl as ≤ mNl M) (e : mLo 0 as = lo) (h : Ev G M 0 lo [] σ r τ) : Ct G M as σ r τ := by
  subst e
  refine ⟨h.1, fun l => ?_⟩
  have hw : mWd M = Cond.codeWith (mNm M) (mCo M) (mNl M) (mRt M) (q0 :: hs0) :: mW0 := by unfold mWd; rw [hh]
  refine vx_ofWH hp hw ?_
  intro p e s m args below meth c s₁ B hml hP
  obtain ⟨rfl, hal, hZ, hok, hnk, hG, hl⟩ := hP
  have hts := atoms_spec (ws := mWd M) B.pre
  have hF : mFr G M p l (headSpec (mWd M) (mRm M (mC τ - mC σ) (mZ τ - mZ σ))).room s m (as.map (tv G)).toArray meth c :=
    ⟨B.exec, B.bytes, hml, hc ▸ findClass_of_methodNamed B.named, fun w hw9 => hts w (by rw [hw]; exact List.mem_cons_of_mem _ hw9), B.notSynchronized, B.returns, fun h9 => (name_of_methodNamed B.named B.method).1.trans h9, by rw [hh]; exact vx_table (x := mNm M) B (hts _ (by rw [hw]; exact List.mem_cons_self)), hal, Nat.le_refl _, Nat.le_refl _, hl, Nat.le_trans (Nat.le_add_right _ _) hZ.1.1, hZ.2.1, hnk, hG⟩
  rw [lg_entry_eq]
  have hls := lv_entry (as.map (tv G)) (n := mNl M) (by rw [mSl_tv]; exact hn)
  rw [← mLo_tv] at hls
  have h9 := h.2 (mC σ) (mZ σ) p l e _ s m _ below meth c s.heap [] _ _ hF ⟨hZ, Nat.le_refl _, fun x hx => (by cases hx), fun v hv => (by cases hv), mLo_ok hok 0, hls, Nat.le_refl _, Nat.le_refl _, (by show mC τ ≤ mC σ + (mC τ - mC σ); omega), (by show mZ τ ≤ mZ σ + (mZ τ - mZ σ); omega)⟩ (fr_end hF hZ h.1.1 h.1.2)
  rw [Nat.sub_self, Nat.sub_self] at h9
  exact h9
/-- returns -/
theorem ev_ret {G : mG} {M : mM} {pc : Nat} {lo : List (Nat × mV)} {σ : mS} (v : Option mV) (d : decode (mCo M) pc = .ok (mRi M, 1)) (hv : mVt (mRt M) v) : Ev G M pc lo v.toList σ (.inl v) σ := by
  refine ⟨⟨Nat.le_refl _, Nat.le_refl _⟩, fun c0 z0 p l e R s m args below meth c H locs Q ls hF hS hK => ?_⟩
  obtain ⟨h1, h2, h3, h4, h5, h6, h7⟩ := hS
  exact hK H locs ls pc h1 h2 h3 (fun w hw => h4 w (by rw [hw]; exact List.mem_cons_self)) hv d
/-- behind a call that returns -/
theorem ev_run {G : mG} {M : mM} {pc : Nat} {lo : List (Nat × mV)} {stk rest : List mV} {σ σ1 τ : mS} {r : mX} {v : Option mV} (h1 : mC σ ≤ mC σ1 ∧ mZ σ ≤ mZ σ1) (hrest : (∀ w ∈ stk, mOk w) → ∀ w ∈ rest, mOk w)
    (hr : ∀ (p : Program) (l : Launch) (e : Env) (R : Room) (s : State) (m : MethodId) (args : Array Value) (below : List Frame) (meth : Method) (c : Code) (H : Heap) (locs : List Loc) (cells slots : Nat) (ls : Array Slot),
      mFr G M p l R s m args meth c → mRZ G σ H → ls.size = mNl M → (∀ v ∈ stk, mOk v) → cells + (mC σ1 - mC σ) ≤ R.cells → slots + (mZ σ1 - mZ σ) ≤ R.slots →
      ∃ a, va_Run p l e R s m args below meth c H locs cells slots (mC σ1 - mC σ) (mZ σ1 - mZ σ) (F0 m pc ls (stk.map (tv G))) (rest.map (tv G)) (mQc G (.inl v) σ1 a) (mFx G))
    (kk : Ev G M (pc + 3) lo (v.toList ++ rest) σ1 r τ) : Ev G M pc lo stk σ r τ := by
  refine ⟨⟨Nat.le_trans h1.1 kk.1.1, Nat.le_trans h1.2 kk.1.2⟩, fun c0 z0 p l e R s m args below meth c H locs Q ls hF hS hK => ?_⟩
  obtain ⟨g1, g2, g3, g4, g5, g6, g7, g8, g9, g10⟩ := hS
  have k1 := kk.1.1
  have k2 := kk.1.2
  have h11 := h1.1
  have h12 := h1.2
  obtain ⟨a, hrun⟩ := hr p l e R s m args below meth c H locs (mC σ - c0) (mZ σ - z0) ls hF g1 g6.1 g4 (by omega) (by omega)
  intro T hT X
  obtain ⟨v1, st₀, t, T', L, e0, X', hL, e1, e2, ⟨v2, e3, e4, e5, e6, e7⟩, st⟩ := hrun T hT X
  cases e3
  have e4' : v1 = v.map (tv G) := Outcome.returned.inj e4
  subst e4'
  have ec : mC σ - c0 + (mC σ1 - mC σ) = mC σ1 - c0 := by omega
  have ez : mZ σ - z0 + (mZ σ1 - mZ σ) = mZ σ1 - z0 := by omega
  rw [ec, ez] at X'
  have h9 := kk.2 c0 z0 p l e R s m args below meth c T'.heap (locs ++ L) Q ls hF ⟨by rw [e1]; exact e6, by rw [e1]; exact Nat.le_trans g2 (by rw [← e0]; exact e7), fun x hx => (List.mem_append.mp hx).elim (g3 x) (hL x), ?_, g5, g6, by omega, by omega, g9, g10⟩ hK T' rfl X'
  · obtain ⟨t2, a1, b1⟩ := h9
    refine ⟨t2, st t2 ?_, b1⟩
    have ev : (v.toList ++ rest).map (tv G) = (v.map (tv G)).toList ++ rest.map (tv G) := by
      cases v <;> simp
    rw [← ev]
    exact a1
  · intro w hw
    rcases List.mem_append.mp hw with h | h
    · exact e5 w (Option.mem_toList.mp h)
    · exact hrest g4 w h
/-- what of a method's words is asked at its calls -/
def mVi (M : mM) (n : Nat) : Prop := Cond.code (mNm M) (mCo M) (mNl M) (mRt M) ∈ mW0 ∧ Cond.instanceMethod (mNm M) ∈ mW0 ∧ Cond.selects (mNm M).cls (mNm M) (mNm M) ∈ mW0 ∧ Cond.initialized (mNm M).cls ∈ mW0 ∧ mHh M = [] ∧
  (mNm M).cls ≠ "java/lang/invoke/MethodHandle" ∧ (mNm M).cls ≠ "java/lang/invoke/VarHandle" ∧ (parseMethodDescriptor (mNm M).desc).map (fun d => d.parameters.length) = some n
def mVs (M : mM) (n : Nat) : Prop := Cond.code (mNm M) (mCo M) (mNl M) (mRt M) ∈ mW0 ∧ Cond.static (mNm M) ∈ mW0 ∧ Cond.initialized (mNm M).cls ∈ mW0 ∧ mHh M = [] ∧
  (mNm M).cls ≠ "java/lang/invoke/MethodHandle" ∧ (mNm M).cls ≠ "java/lang/invoke/VarHandle" ∧ (parseMethodDescriptor (mNm M).desc).map (fun d => d.parameters.length) = some n
def mVc (M : mM) (n : Nat) : Prop := Cond.code (mNm M) (mCo M) (mNl M) none ∈ mW0 ∧ Cond.instanceMethod (mNm M) ∈ mW0 ∧ Cond.initialized (mNm M).cls ∈ mW0 ∧ mHh M = [] ∧ mRt M = none ∧ (mNm M).name = "<init>" ∧
  (mNm M).cls ≠ "java/lang/invoke/MethodHandle" ∧ (mNm M).cls ≠ "java/lang/invoke/VarHandle" ∧ (parseMethodDescriptor (mNm M).desc).map (fun d => d.parameters.length) = some n
def mVh (M : mM) (n : Nat) (hh : List (Nat × Nat × Nat × Nat)) : Prop := mHh M = hh ∧ Cond.codeWith (mNm M) (mCo M) (mNl M) (mRt M) hh ∈ mW0 ∧ Cond.static (mNm M) ∈ mW0 ∧ Cond.initialized (mNm M).cls ∈ mW0 ∧ hh ≠ [] ∧
  (mNm M).cls ≠ "java/lang/invoke/MethodHandle" ∧ (mNm M).cls ≠ "java/lang/invoke/VarHandle" ∧ (parseMethodDescriptor (mNm M).desc).map (fun d => d.parameters.length) = some n
theorem wd_nh {M : mM} (h : mHh M = []) : mWd M = Cond.code (mNm M) (mCo M) (mNl M) (mRt M) :: mW0 := by unfold mWd; rw [h]
theorem wd_in {M : mM} (h : mHh M = []) (hc : Cond.code (mNm M) (mCo M) (mNl M) (mRt M) ∈ mW0) : ∀ w ∈ mWd M, w ∈ mW0 := by
  rw [wd_nh h]
  intro w hw
  rcases List.mem_cons.mp hw with rfl | h
  · exact hc
  · exact h
theorem mU_blind {G : mG} {l : Launch} {as : List mV} {av : List Value} {σ : mS} : FrameBlind (va_Pc av (mU G l as σ)) := fun a U g mk q => ⟨q.1, q.2.1, q.2.2.1, q.2.2.2.1, mNg.same (u := U) rfl q.2.2.2.2.1, q.2.2.2.2.2⟩
theorem mU_at {G : mG} {M : mM} {l : Launch} {p : Program} {R : Room} {s : State} {m : MethodId} {args : Array Value} {meth : Method} {c : Code} (hF : mFr G M p l R s m args meth c) {as : List mV} {σ : mS} {H : Heap} (hZ : mRZ G σ H) (ho : ∀ v ∈ as, mOk v) : ∀ U : State, U.heap = H → s.WarmedH U.vm → mU G l as σ U := by
  obtain ⟨-, -, -, -, -, -, -, -, -, hal, -, -, hl, -, -, hnk, hG⟩ := hF
  intro U hU hW
  exact ⟨hal.trans hW.alike, by rw [hU]; exact hZ, ho, hnk.warm hW, hG, hl⟩
/-- the receiver of a call -/
theorem rz_recv {G : mG} {M : mM} {p : Program} {l : Launch} {R : Room} {s : State} {m : MethodId} {args : Array Value} {meth : Method} {c : Code} (hF : mFr G M p l R s m args meth c) {σ : mS} {H : Heap} (hZ : mRZ G σ H) {a t : Nat} {C : String} {T : u_T} {N : Nat} (hc : vwCl[t]? = some (C, T, N)) (hs : (mH σ a).1 = t + 1) :
    a ≠ 0 ∧ ∃ cell : Cell, H[mAD G a]? = some cell ∧ cell.vm.isStatics = false ∧ s.vm.findClass C = some cell.cls := by
  have ha := rz_ge hZ hs (by have := vwCl_lt hc; omega)
  obtain ⟨hS, hfc, -⟩ := gf_kn hF hc
  obtain ⟨-, -, -, h4, -⟩ := hZ
  obtain ⟨-, h5, -⟩ := h4 a t ha hs
  obtain ⟨-, cell, q1, q2, q3, q4⟩ := h5 (vwCl_lt hc) _ hc
  exact ⟨by omega, cell, q1, by rw [q3]; rfl, by rw [q2]; exact hfc⟩
def mSt8 (st : List mV) : Prop := (st.map mCat).sum ≤ 8
theorem st8 {G : mG} {st : List mV} (h : mSt8 st) {m : MethodId} {pc : Nat} {ls : Array Slot} {sk : List Value} : 2 * (F0 m pc ls sk).monitorRoom + ((st.map (tv G)).map fun v => v.category).sum ≤ 8 := by
  refine lv_room ?_
  rw [List.map_map, show ((fun v : Value => v.category) ∘ tv G) = mCat from funext fun v => tv_cat G v]
  exact h
theorem ok_rev {as rest : List mV} (h : ∀ w ∈ as.reverse ++ rest, mOk w) : (∀ w ∈ as, mOk w) ∧ ∀ w ∈ rest, mOk w := ⟨fun w hw => h w (List.mem_append.mpr (Or.inl (List.mem_reverse.mpr hw))), fun w hw => h w (List.mem_append.mpr (Or.inr hw))⟩
theorem ev_callV {G : mG} {M M' : mM} {pc idx n a t : Nat} {C : String} {T : u_T} {N : Nat} {lo : List (Nat × mV)} {as rest : List mV} {σ σ1 τ : mS} {r : mX} {v : Option mV} (d : decode (mCo M) pc = .ok (.invokevirtual idx, 3)) (hV : mVi M' n) (hl : Cond.methodLink (mOw M) idx (mNm M') ∈ mW0) (hn : as.length = n) (h8 : mSt8 rest)
    (hc : vwCl[t]? = some (C, T, N)) (hC : C = (mNm M').cls) (hs : (mH σ a).1 = t + 1) (hf : mRf M' + 1 ≤ mRf M) (hlo : 19 + mNl M' + mRl M' ≤ mRl M) (hct : Ct G M' (vr a :: as) σ (.inl v) σ1)
    (kk : Ev G M (pc + 3) lo (v.toList ++ rest) σ1 r τ) : Ev G M pc lo (as.reverse ++ vr a :: rest) σ r τ := by
  refine ev_run hct.1 (fun h w hw => (ok_rev h).2 w (List.mem_cons_of_mem _ hw)) (fun p l e R s m args below meth c H locs cells slots ls hF hZ hsz hst hcl hsl => ?_) kk
  obtain ⟨k1, k2, k3, k4, k5, k6, k7, k8⟩ := hV
  obtain ⟨ha, hcell⟩ := rz_recv hF hZ hc hs
  have hin := wd_in k5 k1
  have h1 := (ok_rev hst).1
  have hfr := hF.2.2.2.2.2.2.2.2.2.2.1
  have hlr := hF.2.2.2.2.2.2.2.2.2.2.2.1
  refine ⟨_, va_runV (As := as.map (tv G)) (C := (mNm M').cls) (b := mAD G a) (y := mNm M') (bytes := mCo M') (maxL := mNl M') (nL := mNl M) (ret := mRt M') (index := idx) (n := n) ⟨hF.1, hF.2.1, hF.2.2.1, hF.2.2.2.1, hF.2.2.2.2.1⟩ (hct.met l) ?_ ⟨?_, hC ▸ hcell, ?_⟩ rfl ?_ hsz ?_ (st8 h8) d ⟨hcl, hsl⟩⟩
  · refine cwV (Ts := mW0) n hF.2.2.2.2.1 (w0_of fun w hw => ?_) (wd_nh k5) rfl rfl ⟨rfl, k6, k7, k8⟩ ⟨by show mRf M' + 1 ≤ R.frames; omega, by show 8 + (mNl M' + 11) + mRl M' ≤ R.locals; omega⟩
    unfold wsV at hw
    rcases List.mem_append.mp hw with h | h
    · simp only [List.mem_cons, List.not_mem_nil, or_false] at h
      rcases h with rfl | rfl | rfl | rfl
      · exact hl
      · exact k2
      · exact k3
      · exact k4
    · exact hin w h
  · exact mU_blind
  · intro U hU hW
    exact ⟨by rw [List.map_cons, tv_r G ha], mU_at hF hZ (fun w hw => (List.mem_cons.mp hw).elim (fun e => by rw [e]; trivial) (h1 w)) U hU hW⟩
  · rw [List.length_map]; exact hn
  · show (as.reverse ++ vr a :: rest).map (tv G) = _
    rw [List.map_append, List.map_reverse, List.map_cons, tv_r G ha]
theorem ev_callS {G : mG} {M M' : mM} {pc idx n : Nat} {lo : List (Nat × mV)} {as rest : List mV} {σ σ1 τ : mS} {r : mX} {v : Option mV} (d : decode (mCo M) pc = .ok (.invokestatic idx, 3)) (hV : mVs M' n) (hl : Cond.methodLink (mOw M) idx (mNm M') ∈ mW0) (hn : as.length = n) (h8 : mSt8 rest)
    (hf : mRf M' + 1 ≤ mRf M) (hlo : 19 + mNl M' + mRl M' ≤ mRl M) (hct : Ct G M' as σ (.inl v) σ1)
    (kk : Ev G M (pc + 3) lo (v.toList ++ rest) σ1 r τ) : Ev G M pc lo (as.reverse ++ rest) σ r τ := by
  refine ev_run hct.1 (fun h w hw => (ok_rev h).2 w hw) (fun p l e R s m args below meth c H locs cells slots ls hF hZ hsz hst hcl hsl => ?_) kk
  obtain ⟨k1, k2, k4, k5, k6, k7, k8⟩ := hV
  have hin := wd_in k5 k1
  have h1 := (ok_rev hst).1
  have hfr := hF.2.2.2.2.2.2.2.2.2.2.1
  have hlr := hF.2.2.2.2.2.2.2.2.2.2.2.1
  have hts := hF.2.2.2.2.1
  refine ⟨_, va_runS (As := as.map (tv G)) (y := mNm M') (bytes := mCo M') (maxL := mNl M') (nL := mNl M) (ret := mRt M') (index := idx) (n := n) ⟨hF.1, hF.2.1, hF.2.2.1, hF.2.2.2.1, hts⟩ (hct.met l) ⟨?_, hts _ k2⟩ ⟨?_, ?_⟩ rfl ?_ hsz ?_ (st8 h8) d ⟨hcl, hsl⟩⟩
  · exact callB_of (Ts := mW0) n hts (w0_of hin) (wd_nh k5) rfl rfl (hts _ k4) (hts _ hl) ⟨k6, k7, k8⟩ ⟨by show mRf M' + 1 ≤ R.frames; omega, by show 8 + (mNl M' + 11) + mRl M' ≤ R.locals; omega⟩
  · exact mU_blind
  · intro U hU hW
    exact ⟨rfl, mU_at hF hZ h1 U hU hW⟩
  · rw [List.length_map]; exact hn
  · show (as.reverse ++ rest).map (tv G) = _
    rw [List.map_append, List.map_reverse]
theorem ev_callSH {G : mG} {M M' : mM} {pc idx n : Nat} {hh : List (Nat × Nat × Nat × Nat)} {lo : List (Nat × mV)} {as rest : List mV} {σ σ1 τ : mS} {r : mX} {v : Option mV} (d : decode (mCo M) pc = .ok (.invokestatic idx, 3)) (hV : mVh M' n hh) (hl : Cond.methodLink (mOw M) idx (mNm M') ∈ mW0) (hn : as.length = n) (h8 : mSt8 rest)
    (hf : mRf M' + 1 ≤ mRf M) (hlo : 19 + mNl M' + mRl M' ≤ mRl M) (hct : Ct G M' as σ (.inl v) σ1)
    (kk : Ev G M (pc + 3) lo (v.toList ++ rest) σ1 r τ) : Ev G M pc lo (as.reverse ++ rest) σ r τ := by
  refine ev_run hct.1 (fun h w hw => (ok_rev h).2 w hw) (fun p l e R s m args below meth c H locs cells slots ls hF hZ hsz hst hcl hsl => ?_) kk
  obtain ⟨k5, k1, k2, k4, knil, k6, k7, k8⟩ := hV
  have hwd : mWd M' = Cond.codeWith (mNm M') (mCo M') (mNl M') (mRt M') hh :: mW0 := by
    unfold mWd
    rw [k5]
    cases hh with
    | nil => exact absurd rfl knil
    | cons x xs => rfl
  have h1 := (ok_rev hst).1
  have hfr := hF.2.2.2.2.2.2.2.2.2.2.1
  have hlr := hF.2.2.2.2.2.2.2.2.2.2.2.1
  have hts := hF.2.2.2.2.1
  refine ⟨_, vx_runSW (As := as.map (tv G)) (y := mNm M') (bytes := mCo M') (maxL := mNl M') (nL := mNl M) (ret := mRt M') (index := idx) (n := n) (hh := hh) ⟨hF.1, hF.2.1, hF.2.2.1, hF.2.2.2.1, hts⟩ (hct.met l) ?_ ⟨?_, ?_⟩ rfl ?_ hsz ?_ (st8 h8) d ⟨hcl, hsl⟩⟩
  · refine vx_cwSW (Ts := mW0) n hts (w0_of fun w hw => ?_) hwd rfl rfl ⟨k6, k7, k8⟩ ⟨by show mRf M' + 1 ≤ R.frames; omega, by show 8 + (mNl M' + 11) + mRl M' ≤ R.locals; omega⟩
    unfold va_wsS at hw
    rcases List.mem_append.mp hw with h | h
    · simp only [List.mem_cons, List.not_mem_nil, or_false] at h
      rcases h with rfl | rfl | rfl
      · exact hl
      · exact k2
      · exact k4
    · rw [hwd] at h
      rcases List.mem_cons.mp h with rfl | h
      · exact k1
      · exact h
  · exact mU_blind
  · intro U hU hW
    exact ⟨rfl, mU_at hF hZ h1 U hU hW⟩
  · rw [List.length_map]; exact hn
  · show (as.reverse ++ rest).map (tv G) = _
    rw [List.map_append, List.map_reverse]
theorem ev_callI {G : mG} {M M' : mM} {pc idx n a : Nat} {lo : List (Nat × mV)} {as rest : List mV} {σ σ1 τ : mS} {r : mX} (d : decode (mCo M) pc = .ok (.invokespecial idx, 3)) (hV : mVc M' n) (hl : Cond.methodLink (mOw M) idx (mNm M') ∈ mW0) (hn : as.length = n) (h8 : mSt8 rest) (ha : a ≠ 0)
    (hf : mRf M' + 1 ≤ mRf M) (hlo : 19 + mNl M' + mRl M' ≤ mRl M) (hct : Ct G M' (vr a :: as) σ (.inl none) σ1)
    (kk : Ev G M (pc + 3) lo rest σ1 r τ) : Ev G M pc lo (as.reverse ++ vr a :: rest) σ r τ := by
  refine ev_run (v := none) hct.1 (fun h w hw => (ok_rev h).2 w (List.mem_cons_of_mem _ hw)) (fun p l e R s m args below meth c H locs cells slots ls hF hZ hsz hst hcl hsl => ?_) kk
  obtain ⟨k1, k2, k4, k5, krt, kin, k6, k7, k8⟩ := hV
  have hwd : mWd M' = Cond.code (mNm M') (mCo M') (mNl M') none :: mW0 := by rw [wd_nh k5, krt]
  have hin : ∀ w ∈ mWd M', w ∈ mW0 := wd_in k5 (by rw [krt]; exact k1)
  have h1 := (ok_rev hst).1
  have hfr := hF.2.2.2.2.2.2.2.2.2.2.1
  have hlr := hF.2.2.2.2.2.2.2.2.2.2.2.1
  have hts := hF.2.2.2.2.1
  refine ⟨_, va_runI (As := as.map (tv G)) (b := mAD G a) (y := mNm M') (bytes := mCo M') (maxL := mNl M') (nL := mNl M) (index := idx) (n := n) ⟨hF.1, hF.2.1, hF.2.2.1, hF.2.2.2.1, hts⟩ (hct.met l) (cwI n hts (w0_of hin) hwd rfl rfl (hts _ k4) (hts _ hl) (hts _ k2) kin ⟨k6, k7, k8⟩ ⟨by show mRf M' + 1 ≤ R.frames; omega, by show 8 + (mNl M' + 11) + mRl M' ≤ R.locals; omega⟩) ⟨mU_blind, ?_⟩ rfl ?_ hsz ?_ (st8 h8) d ⟨hcl, hsl⟩⟩
  · intro U hU hW
    exact ⟨by rw [List.map_cons, tv_r G ha], mU_at hF hZ (fun w hw => (List.mem_cons.mp hw).elim (fun e => by rw [e]; trivial) (h1 w)) U hU hW⟩
  · rw [List.length_map]; exact hn
  · show (as.reverse ++ vr a :: rest).map (tv G) = _
    rw [List.map_append, List.map_reverse, List.map_cons, tv_r G ha]
/-- .. a nest mate's -/
theorem ev_callIN {G : mG} {M M' : mM} {pc idx n a : Nat} {host : String} {lo : List (Nat × mV)} {as rest : List mV} {σ σ1 τ : mS} {r : mX} (d : decode (mCo M) pc = .ok (.invokespecial idx, 3)) (hV : mVc M' n) (hl : Cond.methodLinkNest (mOw M) idx (mNm M') host ∈ lw_tbl) (hn : as.length = n) (h8 : mSt8 rest) (ha : a ≠ 0)
    (hf : mRf M' + 1 ≤ mRf M) (hlo : 19 + mNl M' + mRl M' ≤ mRl M) (hct : Ct G M' (vr a :: as) σ (.inl none) σ1)
    (kk : Ev G M (pc + 3) lo rest σ1 r τ) : Ev G M pc lo (as.reverse ++ vr a :: rest) σ r τ := by
  refine ev_run (v := none) hct.1 (fun h w hw => (ok_rev h).2 w (List.mem_cons_of_mem _ hw)) (fun p l e R s m args below meth c H locs cells slots ls hF hZ hsz hst hcl hsl => ?_) kk
  obtain ⟨k1, k2, k4, k5, krt, kin, k6, k7, k8⟩ := hV
  have hwd : mWd M' = Cond.code (mNm M') (mCo M') (mNl M') none :: mW0 := by rw [wd_nh k5, krt]
  have hin : ∀ w ∈ mWd M', w ∈ mW0 := wd_in k5 (by rw [krt]; exact k1)
  have h1 := (ok_rev hst).1
  have hfr := hF.2.2.2.2.2.2.2.2.2.2.1
  have hlr := hF.2.2.2.2.2.2.2.2.2.2.2.1
  have hts := hF.2.2.2.2.1
  have hnk := hF.2.2.2.2.2.2.2.2.2.2.2.2.2.2.2.1.1
  refine ⟨_, va_runIN (As := as.map (tv G)) (b := mAD G a) (y := mNm M') (bytes := mCo M') (maxL := mNl M') (nL := mNl M) (index := idx) (n := n) (host := host) ⟨hF.1, hF.2.1, hF.2.2.1, hF.2.2.2.1, hts⟩ (hct.met l) ⟨va_cnB n hts (w0_of hin) hwd rfl rfl (hnk _ hl rfl) (hts _ k4) ⟨k6, k7, k8⟩ ⟨by show mRf M' + 1 ≤ R.frames; omega, by show 8 + (mNl M' + 11) + mRl M' ≤ R.locals; omega⟩, kin, hts _ k2⟩ ⟨mU_blind, ?_⟩ rfl ?_ hsz ?_ (st8 h8) d ⟨hcl, hsl⟩⟩
  · intro U hU hW
    exact ⟨by rw [List.map_cons, tv_r G ha], mU_at hF hZ (fun w hw => (List.mem_cons.mp hw).elim (fun e => by rw [e]; trivial) (h1 w)) U hU hW⟩
  · rw [List.length_map]; exact hn
  · show (as.reverse ++ vr a :: rest).map (tv G) = _
    rw [List.map_append, List.map_reverse, List.map_cons, tv_r G ha]
