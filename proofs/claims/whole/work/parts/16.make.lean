/-! the mini logic: what is made; rows copied; the library's numbers -/
theorem ev_objInit {G : mG} {M : mM} {pc idx a : Nat} {lo : List (Nat × mV)} {rest : List mV} {σ τ : mS} {r : mX} (d : decode (mCo M) pc = .ok (.invokespecial idx, 3)) (hl : Cond.methodLink (mOw M) idx Lib.objectInit ∈ mW0) (hi : Cond.instanceMethod Lib.objectInit ∈ mW0) (hc : Cond.code Lib.objectInit ⟨#[0xb1]⟩ 1 none ∈ mW0)
    (ha : a ≠ 0) (hf : 1 ≤ mRf M) (h8 : mSt8 rest) (hlo : 20 ≤ mRl M) (k : Ev G M (pc + 3) lo rest σ r τ) : Ev G M pc lo (vr a :: rest) σ r τ := by
  refine Ev.step (fun x y => ⟨ok_t x, y⟩) (fun p l e R s m args below meth c H locs cells slots Q ls hF hZ hls hst hlo9 kk => ?_) k
  have hts := hF.2.2.2.2.1
  have hfr := hF.2.2.2.2.2.2.2.2.2.2.1
  have hlr := hF.2.2.2.2.2.2.2.2.2.2.2.1
  have e0 : (vr a :: rest).map (tv G) = .ref (mAD G a) :: rest.map (tv G) := by rw [List.map_cons, tv_r G ha]
  rw [e0]
  have h9 := st8 (G := G) h8 (m := m) (pc := pc) (ls := ls) (sk := [])
  exact W.objInit hF.1 hF.2.1 hF.2.2.2.1 (hts _ hl) (hts _ hi) (hts _ hc) rfl (by rw [hF.2.2.1]; exact hls.1) rfl d (by omega) (by show 2 * 0 + _ + 12 ≤ _; have : 2 * 0 + ((rest.map (tv G)).map fun v => v.category).sum ≤ 8 := h9; omega) (kk ls hls)
theorem tv_nw (G : mG) (ty : FieldType) (σ : mS) (tg n r j : Nat) (h : r ≠ 32 + mN σ) : mTv G ty (mNew σ tg n) r j = mTv G ty σ r j := by
  cases ty <;> first | exact congrArg (fun z => Value.int (Int32.ofInt z)) (if_neg h) | exact congrArg (fun z => Value.long (Int64.ofBitVec z)) (if_neg h) | exact congrArg (fun z => tv G (vr z)) (if_neg h)
def mDv : FieldType → Value
  | .long => .long (Int64.ofBitVec 0)
  | .object _ => .null
  | .array _ => .null
  | _ => .int (Int32.ofInt 0)
theorem tv_nw0 (G : mG) (ty : FieldType) (σ : mS) (tg n j : Nat) : mTv G ty (mNew σ tg n) (32 + mN σ) j = mDv ty := by
  cases ty <;> first | exact congrArg (fun z => Value.int (Int32.ofInt z)) (if_pos rfl) | exact congrArg (fun z => Value.long (Int64.ofBitVec z)) (if_pos rfl) | exact congrArg (fun z => tv G (vr z)) (if_pos rfl)
theorem rz_new {G : mG} {σ : mS} {H H' : Heap} {tg n : Nat} (hZ : mRZ G σ H) (h0 : mF σ = 0) (hsz : H'.size = H.size + 1) (ho : ∀ q : Nat, q < H.size → H'[q]? = H[q]?)
    (hcell : ∀ t, tg = t + 1 → (t < 50 → mCellO G (mNew σ tg n) H' (32 + mN σ) t) ∧ ∀ t', t = 50 + t' → mCellA G (mNew σ tg n) H' (32 + mN σ) t') : mRZ G (mNew σ tg n) H' := by
  obtain ⟨g1, g2, g3, g4, g5, g6, scr, g7, g8, g9, g10, g11⟩ := hZ
  have hH := g1.2 h0
  have hne : ∀ r, r ≠ 32 + mN σ → mH (mNew σ tg n) r = mH σ r := fun r h => if_neg h
  have hne1 : (1 : Nat) ≠ 32 + mN σ := by omega
  have hn : mN (mNew σ tg n) = mN σ + 1 := rfl
  refine ⟨⟨by rw [hn]; omega, fun _ => by rw [hn]; omega⟩, fun q hq => ?_, fun r k => ?_, fun r t h16 ht => ?_, fun r hr hr1 => ?_, ?_⟩
  · rw [ho q (by omega)]
    exact g2 q hq
  · show mIn (u1 σ.2.2.1 (32 + mN σ) 0 r k)
    unfold u1
    split
    · exact mIn0
    · exact g3 r k
  · by_cases hr : r = 32 + mN σ
    · subst hr
      have ht2 : tg = t + 1 := by
        have : mH (mNew σ tg n) (32 + mN σ) = (tg, n) := if_pos rfl
        rw [this] at ht
        exact ht
      exact ⟨by rw [hn]; omega, hcell t ht2⟩
    · rw [hne r hr] at ht
      obtain ⟨k1, k2, k3⟩ := g4 r t h16 ht
      have hq := ho (mAD G r) (by rw [ad_ge G h16]; omega)
      refine ⟨by rw [hn]; omega, fun h50 q hq2 => ?_, fun t' e ty hty => ?_⟩
      · obtain ⟨m1, m2⟩ := k2 h50 q hq2
        exact ⟨by rw [hne r hr]; exact m1, (m2.kept hq).to fun j _ => (tv_nw G _ σ tg n r j hr).symm⟩
      · rw [hq, k3 t' e ty hty, hne r hr]
        exact congrArg (fun f => some (arrV _ _ f)) (funext fun i => (tv_nw G ty σ tg n r i hr).symm)
  · rw [hne r (by omega)]
    exact g5 r hr hr1
  · rw [hne 1 hne1]
    refine ⟨g6, scr, g7, g8, g9, g10, fun i hi => ?_⟩
    rw [show mI (mNew σ tg n) 1 i = mI σ 1 i from if_neg hne1]
    exact g11 i hi
/-- a row that makes one thing -/
theorem Ev.make {G : mG} {M : mM} {pc pc' : Nat} {lo : List (Nat × mV)} {st st' : List mV} {σ σ' τ : mS} {r : mX} (dc dz : Nat) (h1 : mC σ' = mC σ + dc) (h2 : mZ σ' = mZ σ + dz) (hok : (∀ v ∈ st, mOk v) → ∀ v ∈ st', mOk v)
    (hs : ∀ (p : Program) (l : Launch) (e : Env) (R : Room) (s : State) (m : MethodId) (args : Array Value) (below : List Frame) (meth : Method) (c : Code) (H : Heap) (locs : List Loc) (cells slots : Nat) (Q : State → Prop) (ls : Array Slot),
      mFr G M p l R s m args meth c → mRZ G σ H → (∀ v ∈ st, mOk v) → ls.size = mNl M → cells + dc ≤ R.cells → slots + dz ≤ R.slots → (∀ (H' : Heap), mRZ G σ' H' → H.size ≤ H'.size → W p l e R s m args below meth c H' locs (cells + dc) (slots + dz) Q (F0 m pc' ls (st'.map (tv G)))) → W p l e R s m args below meth c H locs cells slots Q (F0 m pc ls (st.map (tv G))))
    (kk : Ev G M pc' lo st' σ' r τ) : Ev G M pc lo st σ r τ := by
  have q1 := kk.1.1
  have q2 := kk.1.2
  refine ⟨⟨by omega, by omega⟩, fun c0 z0 p l e R s m args below meth c H locs Q ls hF hS hK => ?_⟩
  obtain ⟨g1, g2, g3, g4, g5, g6, g7, g8, g9, g10⟩ := hS
  refine hs p l e R s m args below meth c H locs _ _ Q ls hF g1 g4 g6.1 (by omega) (by omega) fun H' hZ' hsz => ?_
  have ec : mC σ - c0 + dc = mC σ' - c0 := by omega
  have ez : mZ σ - z0 + dz = mZ σ' - z0 := by omega
  rw [ec, ez]
  exact kk.2 c0 z0 p l e R s m args below meth c H' locs Q ls hF ⟨hZ', Nat.le_trans g2 hsz, g3, hok g4, g5, g6, by omega, by omega, g9, g10⟩ hK
theorem ev_new {G : mG} {M : mM} {pc idx t : Nat} {C : String} {T : u_T} {N : Nat} {lo : List (Nat × mV)} {st : List mV} {σ τ : mS} {r : mX} (d : decode (mCo M) pc = .ok (.new idx, 3)) (hc : vwCl[t]? = some (C, T, N)) (hin : ∀ w ∈ u_ws C T N, w ∈ mW0) (hdd : ∀ j, j < N → parseFieldDescriptor (T j).2.2.1 = some (mTY t j)) (hdv : ∀ j, j < N → defaultValue (mTY t j) = mDv (mTY t j))
    (hl : Cond.classLink (mOw M) idx C ∈ mW0) (hins : Cond.instantiable C N ∈ mW0) (hini : Cond.initialized C ∈ mW0) (h0 : mF σ = 0) (kk : Ev G M (pc + 3) lo (vr (32 + mN σ) :: st) (mNew σ (t + 1) N) r τ) : Ev G M pc lo st σ r τ := by
  refine Ev.make (σ' := mNew σ (t + 1) N) 1 N rfl rfl (fun h => ok_c ok_r h) (fun p l e R s m args below meth c H locs cells slots Q ls hF hZ hst hsz hcl hsl kw => ?_) kk
  have hts := hF.2.2.2.2.1
  have hkn := gf_kn hF hc
  refine W.newcK hF.1 hF.2.1 hF.2.2.2.1 (hts _ hl) (hts _ hins) (hts _ hini) rfl d hcl hsl hkn.2.1 rfl fun H1 kC hkC e1 z1 o1 => ?_
  have hH := hZ.1.2 h0
  have hAD : mAD G (32 + mN σ) = H.size := by rw [ad_ge G (by omega)]; omega
  have hZ' : mRZ G (mNew σ (t + 1) N) H1 := by
    refine rz_new hZ h0 z1 o1 fun t2 ht2 => ?_
    have : t2 = t := by omega
    subst this
    refine ⟨fun _ q hq => ?_, fun t' e9 => absurd (vwCl_lt hc) (by omega)⟩
    cases hc.symm.trans hq
    refine ⟨?_, ?_⟩
    · have : mH (mNew σ (t2 + 1) N) (32 + mN σ) = (t2 + 1, N) := if_pos rfl
      rw [this]
    · rw [hAD]
      refine (u_born (mTY t2) hts hin hkn hkC e1 hdd).to fun j hj => ?_
      show defaultValue (mTY t2 j) = mTv G (mTY t2 j) (mNew σ (t2 + 1) N) (32 + mN σ) j
      rw [hdv j hj, tv_nw0]
  have hw := kw H1 hZ' (by omega)
  rw [List.map_cons, tv_r G (by omega), hAD] at hw
  exact hw
theorem ev_newa {G : mG} {M : mM} {pc t : Nat} {at9 : ArrayType} {ty : FieldType} {x : Int} {lo : List (Nat × mV)} {st : List mV} {σ τ : mS} {r : mX} (d : decode (mCo M) pc = .ok (.newarray at9, 2)) (hty : newarray.typeOf at9 = ty) (ht : mAT[t]? = some ty) (hdv : defaultValue ty = mDv ty) (hcb : componentBytes ty ≤ 8)
    (hw : Cond.arrayClass ty ∈ mW0) (h0 : mF σ = 0) (hx0 : 0 ≤ x) (hx1 : x ≤ 100000) (kk : Ev G M (pc + 2) lo (vr (32 + mN σ) :: st) (mNew σ (51 + t) x.toNat) r τ) : Ev G M pc lo (vi x :: st) σ r τ := by
  subst hty
  refine Ev.make (σ' := mNew σ (51 + t) x.toNat) 1 x.toNat rfl rfl (fun h => ok_c ok_r (ok_t h)) (fun p l e R s m args below meth c H locs cells slots Q ls hF hZ hst hsz hcl hsl kw => ?_) kk
  have hts := hF.2.2.2.2.1
  have hxi : mIn x := ok_h hst
  have hb : x.toNat * componentBytes (newarray.typeOf at9) ≤ x.toNat * 8 := Nat.mul_le_mul_left _ hcb
  refine va_newaK (N := x.toNat) hF.1 hF.2.1 (hts _ hw) rfl d rfl (fun h => absurd ((oi_lt hxi mIn0).1 h) (by omega)) (oi_cl hxi) (by omega) hcl hsl rfl fun H1 cA e1 z1 o1 hAr hNm => ?_
  obtain ⟨kA, comp, c1, c2, c3, -⟩ := gf_arr hF ht
  have hcA : G.2.2.2.2.1 t = cA := Option.some.inj (c3.symm.trans hNm)
  have hH := hZ.1.2 h0
  have hAD : mAD G (32 + mN σ) = H.size := by rw [ad_ge G (by omega)]; omega
  have hZ' : mRZ G (mNew σ (51 + t) x.toNat) H1 := by
    refine rz_new hZ h0 z1 o1 fun t2 ht2 => ?_
    refine ⟨fun h50 => by omega, fun t' e9 => ?_⟩
    have : t' = t := by omega
    subst this
    intro ty2 hty2
    cases ht.symm.trans hty2
    have : mH (mNew σ (51 + t') x.toNat) (32 + mN σ) = (51 + t', x.toNat) := if_pos rfl
    rw [hAD, e1, hcA, this]
    exact congrArg (fun f => some (arrV _ _ f)) (funext fun i => by rw [tv_nw0, hdv])
  have hw9 := kw H1 hZ' (by omega)
  rw [List.map_cons, tv_r G (by omega), hAD] at hw9
  exact hw9
theorem ev_anew {G : mG} {M : mM} {pc idx t : Nat} {C : String} {x : Int} {lo : List (Nat × mV)} {st : List mV} {σ τ : mS} {r : mX} (d : decode (mCo M) pc = .ok (.anewarray idx, 3)) (ht : mAT[t]? = some (.object C)) (hl : Cond.classLink (mOw M) idx C ∈ mW0) (hov : Cond.arrayOver (.object C) ∈ lw_tbl)
    (h0 : mF σ = 0) (hx0 : 0 ≤ x) (hx1 : x ≤ 100000) (kk : Ev G M (pc + 3) lo (vr (32 + mN σ) :: st) (mNew σ (51 + t) x.toNat) r τ) : Ev G M pc lo (vi x :: st) σ r τ := by
  refine Ev.make (σ' := mNew σ (51 + t) x.toNat) 1 x.toNat rfl rfl (fun h => ok_c ok_r (ok_t h)) (fun p l e R s m args below meth c H locs cells slots Q ls hF hZ hst hsz hcl hsl kw => ?_) kk
  have hts := hF.2.2.2.2.1
  have hnk := hF.2.2.2.2.2.2.2.2.2.2.2.2.2.2.2.1.1
  have hxi : mIn x := ok_h hst
  have hcl9 : (Int32.ofInt x).toNatClampNeg = x.toNat := oi_cl hxi
  refine W.anew hF.1 hF.2.1 hF.2.2.2.1 (hts _ hl) (nk_at hnk hts hov rfl) rfl d rfl (fun h => absurd ((oi_lt hxi mIn0).1 h) (by omega)) (by rw [hcl9]; omega) hcl (by rw [hcl9]; exact hsl) fun cA kA comp h1 h2 h3 h4 => ?_
  rw [hcl9]
  obtain ⟨kA2, comp2, c1, c2, c3, -⟩ := gf_arr hF ht
  have hcA : G.2.2.2.2.1 t = cA := Option.some.inj (c3.symm.trans h1)
  have hH := hZ.1.2 h0
  have hAD : mAD G (32 + mN σ) = H.size := by rw [ad_ge G (by omega)]; omega
  have hZ' : mRZ G (mNew σ (51 + t) x.toNat) (H.push { cls := cA, slots := Array.replicate x.toNat .null, vm := .none }) := by
    refine rz_new hZ h0 (by simp) (fun q hq => by rw [Array.getElem?_push, if_neg (Nat.ne_of_lt hq)]) fun t2 ht2 => ?_
    refine ⟨fun h50 => by omega, fun t' e9 => ?_⟩
    have : t' = t := by omega
    subst this
    intro ty2 hty2
    cases ht.symm.trans hty2
    have : mH (mNew σ (51 + t') x.toNat) (32 + mN σ) = (51 + t', x.toNat) := if_pos rfl
    rw [hAD, this, hcA, arrV_new]
    simp only [Array.getElem?_push_size]
    exact congrArg (fun f => some (arrV _ _ f)) (funext fun i => by rw [tv_nw0]; rfl)
  have hw9 := kw _ hZ' (by simp)
  rw [List.map_cons, tv_r G (by omega), hAD] at hw9
  exact hw9
/-- the library's max, min, abs -/
theorem ev_mmax {G : mG} {M : mM} {pc idx : Nat} {x y : Int} {lo : List (Nat × mV)} {st : List mV} {σ τ : mS} {r : mX} (d : decode (mCo M) pc = .ok (.invokestatic idx, 3)) (hl : Cond.methodLink (mOw M) idx Lib.Math.max.name ∈ mW0) (hs : Cond.static Lib.Math.max.name ∈ mW0) (hi : Cond.initialized "java/lang/Math" ∈ mW0) (hc : Cond.code Lib.Math.max.name Lib.Math.max.code 2 (some .int) ∈ mW0)
    (hf : 1 ≤ mRf M) (h8 : mSt8 st) (hlo : 40 ≤ mRl M) (kk : Ev G M (pc + 3) lo (vi (if x < y then y else x) :: st) σ r τ) : Ev G M pc lo (vi y :: vi x :: st) σ r τ := by
  refine Ev.make (σ' := σ) 0 0 rfl rfl (fun h => ok_c (v := vi (if x < y then y else x)) (by show mIn _; split; exact ok_h h; exact ok_h (ok_t h)) (ok_t (ok_t h))) (fun p l e R s m args below meth c H locs cells slots Q ls hF hZ hst hsz hcl hsl kw => ?_) kk
  have hts := hF.2.2.2.2.1
  have hfr := hF.2.2.2.2.2.2.2.2.2.2.1
  have hlr := hF.2.2.2.2.2.2.2.2.2.2.2.1
  have h9 : 2 * 0 + ((st.map (tv G)).map fun v => v.category).sum ≤ 8 := st8 (G := G) h8 (m := m) (pc := pc) (ls := ls) (sk := [])
  refine va_mmax hF.1 hF.2.1 (by rw [hF.2.2.1]; exact hsz.symm) hF.2.2.2.1 (hts _ hl) (hts _ hs) (hts _ hi) (hts _ hc) (by omega) (by omega) hcl hsl d ?_
  have hw := kw H hZ (Nat.le_refl _)
  have e : (if Int32.ofInt x < Int32.ofInt y then Int32.ofInt y else Int32.ofInt x) = Int32.ofInt (if x < y then y else x) := by
    by_cases h : x < y
    · rw [if_pos h, if_pos ((oi_lt (ok_h (ok_t hst)) (ok_h hst)).2 h)]
    · rw [if_neg h, if_neg (fun q => h ((oi_lt (ok_h (ok_t hst)) (ok_h hst)).1 q))]
  rw [e]
  exact hw
theorem ev_mmin {G : mG} {M : mM} {pc idx : Nat} {x y : Int} {lo : List (Nat × mV)} {st : List mV} {σ τ : mS} {r : mX} (d : decode (mCo M) pc = .ok (.invokestatic idx, 3)) (hl : Cond.methodLink (mOw M) idx Lib.Math.min.name ∈ mW0) (hs : Cond.static Lib.Math.min.name ∈ mW0) (hi : Cond.initialized "java/lang/Math" ∈ mW0) (hc : Cond.code Lib.Math.min.name Lib.Math.min.code 2 (some .int) ∈ mW0)
    (hf : 1 ≤ mRf M) (h8 : mSt8 st) (hlo : 40 ≤ mRl M) (kk : Ev G M (pc + 3) lo (vi (if y < x then y else x) :: st) σ r τ) : Ev G M pc lo (vi y :: vi x :: st) σ r τ := by
  refine Ev.make (σ' := σ) 0 0 rfl rfl (fun h => ok_c (v := vi (if y < x then y else x)) (by show mIn _; split; exact ok_h h; exact ok_h (ok_t h)) (ok_t (ok_t h))) (fun p l e R s m args below meth c H locs cells slots Q ls hF hZ hst hsz hcl hsl kw => ?_) kk
  have hts := hF.2.2.2.2.1
  have hfr := hF.2.2.2.2.2.2.2.2.2.2.1
  have hlr := hF.2.2.2.2.2.2.2.2.2.2.2.1
  have h9 : 2 * 0 + ((st.map (tv G)).map fun v => v.category).sum ≤ 8 := st8 (G := G) h8 (m := m) (pc := pc) (ls := ls) (sk := [])
  refine va_mmin hF.1 hF.2.1 (by rw [hF.2.2.1]; exact hsz.symm) hF.2.2.2.1 (hts _ hl) (hts _ hs) (hts _ hi) (hts _ hc) (by omega) (by omega) hcl hsl d ?_
  have hw := kw H hZ (Nat.le_refl _)
  have e : (if Int32.ofInt y < Int32.ofInt x then Int32.ofInt y else Int32.ofInt x) = Int32.ofInt (if y < x then y else x) := by
    by_cases h : y < x
    · rw [if_pos h, if_pos ((oi_lt (ok_h hst) (ok_h (ok_t hst))).2 h)]
    · rw [if_neg h, if_neg (fun q => h ((oi_lt (ok_h hst) (ok_h (ok_t hst))).1 q))]
  rw [e]
  exact hw
theorem ev_mabs {G : mG} {M : mM} {pc idx : Nat} {x : Int} {lo : List (Nat × mV)} {st : List mV} {σ τ : mS} {r : mX} (d : decode (mCo M) pc = .ok (.invokestatic idx, 3)) (hl : Cond.methodLink (mOw M) idx Lib.Math.abs.name ∈ mW0) (hs : Cond.static Lib.Math.abs.name ∈ mW0) (hi : Cond.initialized "java/lang/Math" ∈ mW0) (hc : Cond.code Lib.Math.abs.name Lib.Math.abs.code 1 (some .int) ∈ mW0)
    (hf : 1 ≤ mRf M) (h8 : mSt8 st) (hlo : 40 ≤ mRl M) (kk : Ev G M (pc + 3) lo (vi (if 0 ≤ x then x else mw (0 - x)) :: st) σ r τ) : Ev G M pc lo (vi x :: st) σ r τ := by
  refine Ev.make (σ' := σ) 0 0 rfl rfl (fun h => ok_c (v := vi (if 0 ≤ x then x else mw (0 - x))) (by show mIn _; split; exact ok_h h; exact mw_in _) (ok_t h)) (fun p l e R s m args below meth c H locs cells slots Q ls hF hZ hst hsz hcl hsl kw => ?_) kk
  have hts := hF.2.2.2.2.1
  have hfr := hF.2.2.2.2.2.2.2.2.2.2.1
  have hlr := hF.2.2.2.2.2.2.2.2.2.2.2.1
  have h9 : 2 * 0 + ((st.map (tv G)).map fun v => v.category).sum ≤ 8 := st8 (G := G) h8 (m := m) (pc := pc) (ls := ls) (sk := [])
  refine va_mabs hF.1 hF.2.1 (by rw [hF.2.2.1]; exact hsz.symm) hF.2.2.2.1 (hts _ hl) (hts _ hs) (hts _ hi) (hts _ hc) (by omega) (by omega) hcl hsl d ?_
  have hw := kw H hZ (Nat.le_refl _)
  have e : (if 0 ≤ Int32.ofInt x then Int32.ofInt x else 0 - Int32.ofInt x) = Int32.ofInt (if 0 ≤ x then x else mw (0 - x)) := by
    have h9 : (0 : Int32) ≤ Int32.ofInt x ↔ 0 ≤ x := oi_le mIn0 (ok_h hst)
    by_cases h : 0 ≤ x
    · rw [if_pos h, if_pos (h9.2 h)]
    · rw [if_neg h, if_neg (fun q => h (h9.1 q)), oi_mw, Int32.ofInt_sub]
      rfl
  rw [e]
  exact hw
/-- a row copied from its beginning into another one's -/
def mCpI (σ : mS) (a b n : Nat) : mS := (σ.1, σ.2.1, (fun r j => if r = b ∧ j < n then σ.2.2.1 a j else σ.2.2.1 r j), σ.2.2.2.1, σ.2.2.2.2)
def mCpL (σ : mS) (a b n : Nat) : mS := (σ.1, σ.2.1, σ.2.2.1, (fun r j => if r = b ∧ j < n then σ.2.2.2.1 a j else σ.2.2.2.1 r j), σ.2.2.2.2)
theorem rz_row {G : mG} {σ σ' : mS} {H H' : Heap} {b t : Nat} {ty : FieldType} (hZ : mRZ G σ H) (hty : mAT[t]? = some ty) (hs : (mH σ b).1 = 51 + t) (hb : 32 ≤ b) (h1 : σ'.1 = σ.1) (h2 : σ'.2.1 = σ.2.1) (hr : ∀ r j, mIn (mI σ' r j)) (hsame : ∀ (ty : FieldType) (r j : Nat), r ≠ b → mTv G ty σ' r j = mTv G ty σ r j) (hI : ∀ j, mI σ' 1 j = mI σ 1 j)
    (e1 : H'[mAD G b]? = some (arrV (G.2.2.2.2.1 t) (mH σ b).2 (fun i => mTv G ty σ' b i))) (e2 : H'.size = H.size) (e3 : ∀ q : Nat, q ≠ mAD G b → H'[q]? = H[q]?) : mRZ G σ' H' := by
  obtain ⟨g1, g2, -, g4, g5, g6, scr, g7, g8, g9, g10, g11⟩ := hZ
  have eH : mH σ' = mH σ := h2
  have eN : mN σ' = mN σ := by show σ'.1.2.2.1 = σ.1.2.2.1; rw [h1]
  have eF : mF σ' = mF σ := by show σ'.1.2.2.2 = σ.1.2.2.2; rw [h1]
  have haD := ad_ge G hb
  refine ⟨⟨by rw [eN, e2]; exact g1.1, fun hf => by rw [eN, e2]; exact g1.2 (by rw [← eF]; exact hf)⟩, fun q hq => ?_, hr, fun r u h16 ht => ?_, fun r hr hr1 => by rw [eH]; exact g5 r hr hr1, by rw [eH]; exact g6, scr, g7, g8, g9, by rw [eH]; exact g10, fun i hi => by rw [hI]; exact g11 i (by rw [← eH]; exact hi)⟩
  · rw [e3 q (by omega)]
    exact g2 q hq
  · rw [eH] at ht
    obtain ⟨k1, k2, k3⟩ := g4 r u h16 ht
    refine ⟨by rw [eN]; exact k1, ?_⟩
    by_cases hra : r = b
    · subst hra
      refine ⟨fun h50 => by omega, fun t' e => ?_⟩
      intro ty2 hty2
      have : t' = t := by omega
      subst this
      cases hty.symm.trans hty2
      rw [e1, eH]
    · have hq : mAD G r ≠ mAD G b := fun h => hra (ad_inj G h16 hb h)
      refine ⟨fun h50 q hq2 => ?_, fun t' e ty hty => ?_⟩
      · obtain ⟨m1, m2⟩ := k2 h50 q hq2
        exact ⟨by rw [eH]; exact m1, (m2.kept (e3 _ hq)).to fun j _ => (hsame _ r j hra).symm⟩
      · have m1 := k3 t' e ty hty
        rw [e3 _ hq, m1, eH]
        exact congrArg (fun f => some (arrV _ _ f)) (funext fun i => (hsame ty r i hra).symm)
theorem nn_z {z : Int} (hz : mIn z) (h : 0 ≤ z) : (Int32.ofInt z).toInt = ((Int32.ofInt z).toNatClampNeg : Int) := by
  rw [oi_to hz, oi_cl hz]
  omega
/-- System.arraycopy from the beginning, between rows of one kind of numbers -/
theorem copy_go {G : mG} {M : mM} {p : Program} {l : Launch} {e : Env} {R : Room} {s : State} {m : MethodId} {args : Array Value} {below : List Frame} {meth : Method} {c : Code} {H : Heap} {locs : List Loc} {cells slots : Nat} {Q : State → Prop} {ls : Array Slot} {σ σ' : mS} {pc idx a b t : Nat} {ty : FieldType} {n : Int} {rest : List Value} (hF : mFr G M p l R s m args meth c) (hZ : mRZ G σ H) (hsz : ls.size = mNl M)
    (d : decode (mCo M) pc = .ok (.invokestatic idx, 3)) (hl : Cond.methodLink (mOw M) idx arraycopyName ∈ mW0) (hnt : Cond.native arraycopyName ∈ mW0) (hst : Cond.static arraycopyName ∈ mW0) (hini : Cond.initialized "java/lang/System" ∈ mW0) (hf : 1 ≤ mRf M) (hlo : 60 ≤ mRl M) (h8 : (rest.map fun v => v.category).sum ≤ 8)
    (hty : mAT[t]? = some ty) (ht2 : t < 2) (ha : (mH σ a).1 = 51 + t) (hb : (mH σ b).1 = 51 + t) (ha16 : 32 ≤ a) (hb16 : 32 ≤ b) (hn0 : 0 ≤ n) (hni : mIn n) (hna : n ≤ ((mH σ a).2 : Nat)) (hnb : n ≤ ((mH σ b).2 : Nat))
    (h1 : σ'.1 = σ.1) (h2 : σ'.2.1 = σ.2.1) (hr : ∀ r j, mIn (mI σ' r j)) (hsame : ∀ (ty : FieldType) (r j : Nat), r ≠ b → mTv G ty σ' r j = mTv G ty σ r j) (hI : ∀ j, mI σ' 1 j = mI σ 1 j) (hv : ∀ j, mTv G ty σ' b j = if j < n.toNat then mTv G ty σ a j else mTv G ty σ b j)
    (kw : ∀ (H' : Heap) (L : List Loc), mRZ G σ' H' → H'.size = H.size → (∀ x ∈ L, G.1.heap.size ≤ x.base) → W p l e R s m args below meth c H' (locs ++ L) cells slots Q (F0 m (pc + 3) ls rest)) :
    W p l e R s m args below meth c H locs cells slots Q (F0 m pc ls (.int (Int32.ofInt n) :: .int 0 :: .ref (mAD G b) :: .int 0 :: .ref (mAD G a) :: rest)) := by
  have hts := hF.2.2.2.2.1
  have hfr := hF.2.2.2.2.2.2.2.2.2.2.1
  have hlr := hF.2.2.2.2.2.2.2.2.2.2.2.1
  obtain ⟨-, -, -, g4, -⟩ := id hZ
  have qa := (g4 a (50 + t) ha16 (by omega)).2.2 t rfl ty hty
  have qb := (g4 b (50 + t) hb16 (by omega)).2.2 t rfl ty hty
  obtain ⟨kA, comp, c1, c2, -⟩ := gf_arr hF hty
  have hprim : refKind ty = false := by
    have : t = 0 ∨ t = 1 := by omega
    rcases this with rfl | rfl
    · cases hty; rfl
    · cases hty; rfl
  have hfits : ∀ r j, fits ty (mTv G ty σ r j) = true := by
    have : t = 0 ∨ t = 1 := by omega
    rcases this with rfl | rfl
    · cases hty; intro r j; rfl
    · cases hty; intro r j; rfl
  have hz0 : ¬ (0 : Int32) < 0 := by decide
  have hnw : nativeFrameWords "java/lang/System" "arraycopy" 5 + 11 ≤ 52 := by decide +kernel
  have hnn : ¬ Int32.ofInt n < 0 := fun h => absurd ((oi_lt hni mIn0).1 h) (by omega)
  have hcl : (Int32.ofInt n).toNatClampNeg = n.toNat := oi_cl hni
  intro T hT X
  obtain ⟨vm', X', step⟩ := X.arraycopy hF.1 hF.2.2.2.1 (hts _ hl) (hts _ hnt) (hts _ hst) (hts _ hini) (src := mAD G a) (dst := mAD G b) (cs := arrV (G.2.2.2.2.1 t) (mH σ a).2 (fun i => mTv G ty σ a i)) (cd := arrV (G.2.2.2.2.1 t) (mH σ b).2 (fun i => mTv G ty σ b i)) (srcPos := 0) (destPos := 0) (n := Int32.ofInt n) (by rw [hT]; exact qa) (by rw [hT]; exact qb)
    (fun _ h => by cases h) (fun _ h => by cases h) (fun h => by cases h) (fun h => by cases h) c1 c1 c2 c2 (by simp [hprim]) hz0 hz0 hnn
    (by rw [nn_z hni hn0, arrV_size, hcl]; show ¬ ((0 : Int) + _ > _); omega)
    (by rw [nn_z hni hn0, arrV_size, hcl]; show ¬ ((0 : Int) + _ > _); omega)
    (fun vm₁ _ i hi => by
      rw [hcl] at hi
      have e : (arrV (G.2.2.2.2.1 t) (mH σ a).2 (fun i => mTv G ty σ a i)).slots.getD ((0 : Int32).toNatClampNeg + i) .null = mTv G ty σ a i := by
        rw [Array.getD_eq_getD_getElem?, show (0 : Int32).toNatClampNeg + i = i from Nat.zero_add i, arrV_read _ _ (by omega)]
        rfl
      refine ⟨?_, ?_⟩
      · rw [e]
        exact hfits a i
      · rw [e]
        have : t = 0 ∨ t = 1 := by omega
        rcases this with rfl | rfl
        · cases hty; trivial
        · cases hty; trivial)
    (g := F0 m pc ls (.int (Int32.ofInt n) :: .int 0 :: .ref (mAD G b) :: .int 0 :: .ref (mAD G a) :: rest)) rfl (by rw [hF.2.2.1]; exact hsz) (rest := rest) rfl (by rw [hF.2.1]; exact d) (by omega) (by show 2 * 0 + _ + (nativeFrameWords "java/lang/System" "arraycopy" 5 + 11) ≤ _; omega)
  have e1 : copied (arrV (G.2.2.2.2.1 t) (mH σ a).2 (fun i => mTv G ty σ a i)) (arrV (G.2.2.2.2.1 t) (mH σ b).2 (fun i => mTv G ty σ b i)) 0 0 (Int32.ofInt n) = arrV (G.2.2.2.2.1 t) (mH σ b).2 (fun i => mTv G ty σ' b i) := by
    refine (va_copied (fun z : Value => z) (G.2.2.2.2.1 t) (G.2.2.2.2.1 t) (sp := (0 : Int32).toNatClampNeg) (dp := (0 : Int32).toNatClampNeg) (n := (Int32.ofInt n).toNatClampNeg) (fun i => mTv G ty σ a i) (fun i => mTv G ty σ b i) (by rw [hcl]; show 0 + _ ≤ _; omega)).trans ?_
    refine congrArg (arrV _ _) (funext fun j => ?_)
    rw [hv j]
    show va_cpy _ _ 0 0 _ j = _
    rw [hcl]
    unfold va_cpy
    by_cases h : j < n.toNat
    · rw [if_pos (by omega), if_pos h]
      show mTv G ty σ a (0 + (j - 0)) = _
      rw [Nat.sub_zero, Nat.zero_add]
    · rw [if_neg (by omega), if_neg h]
  rw [e1] at X' step
  have hlt : mAD G b < H.size := (Array.getElem?_eq_some_iff.mp qb).1
  have hheap : ((T.setVm vm').setCell (mAD G b) (arrV (G.2.2.2.2.1 t) (mH σ b).2 (fun i => mTv G ty σ' b i))).heap = H.setIfInBounds (mAD G b) (arrV (G.2.2.2.2.1 t) (mH σ b).2 (fun i => mTv G ty σ' b i)) := by rw [← hT]; rfl
  have hZ' : mRZ G σ' (H.setIfInBounds (mAD G b) (arrV (G.2.2.2.2.1 t) (mH σ b).2 (fun i => mTv G ty σ' b i))) :=
    rz_row hZ hty hb hb16 h1 h2 hr hsame hI (by simp [Array.getElem?_setIfInBounds, hlt]) (by simp) (fun q hq => by simp [Array.getElem?_setIfInBounds, Ne.symm hq])
  obtain ⟨t2, a1, b1⟩ := kw _ _ hZ' (by simp) (fun x hx => by
    obtain ⟨z, -, hz⟩ := List.mem_map.mp hx
    rw [← hz]
    show G.1.heap.size ≤ mAD G b
    rw [ad_ge G hb16]
    omega) _ hheap X'
  exact ⟨t2, step t2 a1, b1⟩
theorem Ev.rowset {G : mG} {M : mM} {pc pc' b : Nat} {lo : List (Nat × mV)} {st st' : List mV} {σ σ' τ : mS} {r : mX} (h1 : σ'.1 = σ.1) (hok : (∀ v ∈ st, mOk v) → ∀ v ∈ st', mOk v)
    (hs : ∀ (p : Program) (l : Launch) (e : Env) (R : Room) (s : State) (m : MethodId) (args : Array Value) (below : List Frame) (meth : Method) (c : Code) (H : Heap) (locs : List Loc) (cells slots : Nat) (Q : State → Prop) (ls : Array Slot),
      mFr G M p l R s m args meth c → mRZ G σ H → (∀ v ∈ st, mOk v) → ls.size = mNl M → (∀ (H' : Heap) (L : List Loc), mRZ G σ' H' → H'.size = H.size → (∀ x ∈ L, G.1.heap.size ≤ x.base) → W p l e R s m args below meth c H' (locs ++ L) cells slots Q (F0 m pc' ls (st'.map (tv G)))) → W p l e R s m args below meth c H locs cells slots Q (F0 m pc ls (st.map (tv G))))
    (kk : Ev G M pc' lo st' σ' r τ) : Ev G M pc lo st σ r τ := by
  have eC : mC σ' = mC σ := by show σ'.1.1 = σ.1.1; rw [h1]
  have eZ : mZ σ' = mZ σ := by show σ'.1.2.1 = σ.1.2.1; rw [h1]
  refine ⟨by rw [← eC, ← eZ]; exact kk.1, fun c0 z0 p l e R s m args below meth c H locs Q ls hF hS hK => ?_⟩
  obtain ⟨g1, g2, g3, g4, g5, g6, g7, g8, g9⟩ := hS
  refine hs p l e R s m args below meth c H locs _ _ Q ls hF g1 g4 g6.1 fun H' L hZ' hsz hL => ?_
  rw [← eC, ← eZ]
  refine kk.2 c0 z0 p l e R s m args below meth c H' _ Q ls hF ⟨hZ', by rw [hsz]; exact g2, fun x hx => ?_, hok g4, g5, g6, by rw [eC]; exact g7, by rw [eZ]; exact g8, g9⟩ hK
  rcases List.mem_append.mp hx with h | h
  · exact g3 x h
  · exact hL x h
theorem ev_copyI {G : mG} {M : mM} {pc idx a b : Nat} {n : Int} {lo : List (Nat × mV)} {st : List mV} {σ τ : mS} {r : mX} (d : decode (mCo M) pc = .ok (.invokestatic idx, 3)) (hl : Cond.methodLink (mOw M) idx arraycopyName ∈ mW0) (hnt : Cond.native arraycopyName ∈ mW0) (hst : Cond.static arraycopyName ∈ mW0) (hini : Cond.initialized "java/lang/System" ∈ mW0) (hf : 1 ≤ mRf M) (hlo : 60 ≤ mRl M) (h8 : mSt8 st)
    (ha : (mH σ a).1 = 51) (hb : (mH σ b).1 = 51) (ha16 : 32 ≤ a) (hb16 : 32 ≤ b) (hn0 : 0 ≤ n) (hna : n ≤ ((mH σ a).2 : Nat)) (hnb : n ≤ ((mH σ b).2 : Nat)) (kk : Ev G M (pc + 3) lo st (mCpI σ a b n.toNat) r τ) : Ev G M pc lo (vi n :: vi 0 :: vr b :: vi 0 :: vr a :: st) σ r τ := by
  refine Ev.rowset (b := b) (σ' := mCpI σ a b n.toNat) rfl (fun h => ok_t (ok_t (ok_t (ok_t (ok_t h))))) (fun p l e R s m args below meth c H locs cells slots Q ls hF hZ hst9 hsz kw => ?_) kk
  have e0 : (vi n :: vi 0 :: vr b :: vi 0 :: vr a :: st).map (tv G) = .int (Int32.ofInt n) :: .int 0 :: .ref (mAD G b) :: .int 0 :: .ref (mAD G a) :: st.map (tv G) := by
    simp only [List.map_cons]
    rw [tv_r G (a := b) (by omega), tv_r G (a := a) (by omega)]
    rfl
  rw [e0]
  have h9 : 2 * 0 + ((st.map (tv G)).map fun v => v.category).sum ≤ 8 := st8 (G := G) h8 (m := m) (pc := pc) (ls := ls) (sk := [])
  refine copy_go (σ' := mCpI σ a b n.toNat) hF hZ hsz d hl hnt hst hini hf hlo (by omega) (t := 0) rfl (by omega) ha hb ha16 hb16 hn0 (ok_h hst9) hna hnb rfl rfl (fun r j => ?_) (fun ty r j h => ?_) (fun j => ?_) (fun j => ?_) kw
  · show mIn (if r = b ∧ j < n.toNat then σ.2.2.1 a j else σ.2.2.1 r j)
    split
    · exact hZ.2.2.1 a j
    · exact hZ.2.2.1 r j
  · cases ty <;> first | rfl | exact congrArg (fun z => Value.int (Int32.ofInt z)) (if_neg (fun q => h q.1))
  · exact if_neg (fun q => by omega)
  · show Value.int (Int32.ofInt (if b = b ∧ j < n.toNat then σ.2.2.1 a j else σ.2.2.1 b j)) = _
    by_cases h : j < n.toNat
    · rw [if_pos ⟨rfl, h⟩, if_pos h]; rfl
    · rw [if_neg (fun q => h q.2), if_neg h]; rfl
theorem ev_copyL {G : mG} {M : mM} {pc idx a b : Nat} {n : Int} {lo : List (Nat × mV)} {st : List mV} {σ τ : mS} {r : mX} (d : decode (mCo M) pc = .ok (.invokestatic idx, 3)) (hl : Cond.methodLink (mOw M) idx arraycopyName ∈ mW0) (hnt : Cond.native arraycopyName ∈ mW0) (hst : Cond.static arraycopyName ∈ mW0) (hini : Cond.initialized "java/lang/System" ∈ mW0) (hf : 1 ≤ mRf M) (hlo : 60 ≤ mRl M) (h8 : mSt8 st)
    (ha : (mH σ a).1 = 52) (hb : (mH σ b).1 = 52) (ha16 : 32 ≤ a) (hb16 : 32 ≤ b) (hn0 : 0 ≤ n) (hna : n ≤ ((mH σ a).2 : Nat)) (hnb : n ≤ ((mH σ b).2 : Nat)) (kk : Ev G M (pc + 3) lo st (mCpL σ a b n.toNat) r τ) : Ev G M pc lo (vi n :: vi 0 :: vr b :: vi 0 :: vr a :: st) σ r τ := by
  refine Ev.rowset (b := b) (σ' := mCpL σ a b n.toNat) rfl (fun h => ok_t (ok_t (ok_t (ok_t (ok_t h))))) (fun p l e R s m args below meth c H locs cells slots Q ls hF hZ hst9 hsz kw => ?_) kk
  have e0 : (vi n :: vi 0 :: vr b :: vi 0 :: vr a :: st).map (tv G) = .int (Int32.ofInt n) :: .int 0 :: .ref (mAD G b) :: .int 0 :: .ref (mAD G a) :: st.map (tv G) := by
    simp only [List.map_cons]
    rw [tv_r G (a := b) (by omega), tv_r G (a := a) (by omega)]
    rfl
  rw [e0]
  have h9 : 2 * 0 + ((st.map (tv G)).map fun v => v.category).sum ≤ 8 := st8 (G := G) h8 (m := m) (pc := pc) (ls := ls) (sk := [])
  refine copy_go (σ' := mCpL σ a b n.toNat) hF hZ hsz d hl hnt hst hini hf hlo (by omega) (t := 1) rfl (by omega) ha hb ha16 hb16 hn0 (ok_h hst9) hna hnb rfl rfl (fun r j => hZ.2.2.1 r j) (fun ty r j h => ?_) (fun j => rfl) (fun j => ?_) kw
  · cases ty <;> first | rfl | exact congrArg (fun z => Value.long (Int64.ofBitVec z)) (if_neg (fun q => h q.1))
  · show Value.long (Int64.ofBitVec (if b = b ∧ j < n.toNat then σ.2.2.2.1 a j else σ.2.2.2.1 b j)) = _
    by_cases h : j < n.toNat
    · rw [if_pos ⟨rfl, h⟩, if_pos h]; rfl
    · rw [if_neg (fun q => h q.2), if_neg h]; rfl
