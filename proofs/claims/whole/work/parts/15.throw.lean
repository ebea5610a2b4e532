/-! the mini logic: what is thrown, what is caught -/
theorem nk_at {s : State} {args : Array Value} (hnk : mNk s) (hts : ∀ w ∈ mW0, w.before args s = true) {w : Cond} (h : w ∈ lw_tbl) (hg : (goodWord w || mOth w) = true) : w.before args s = true := by
  rcases Bool.or_eq_true_iff.mp hg with g | g
  · exact hts w (List.mem_filter.mpr ⟨h, g⟩)
  · have h1 := hnk w h g
    unfold mOth at g
    split at g
    · exact va_tabs rfl rfl h1
    · exact va_tabs rfl rfl h1
    · exact va_tabs rfl rfl h1
    · exact va_AO.use h1
    · exact h1
    · cases g
theorem ot_of {w : Cond} (hg : (goodWord w || mOth w) = true) (ho : w.onTables = true ∨ goodWord w = true) : vx_ot w = true := by
  unfold vx_ot
  rcases ho with h | h <;> simp [h]
/-- 'throw new E()' where nothing catches it -/
theorem ev_throw {G : mG} {M : mM} {pc ik ic : Nat} {lo : List (Nat × mV)} {st : List mV} {σ : mS} (E : Nat) (d0 : decode (mCo M) pc = .ok (.new ik, 3)) (d3 : decode (mCo M) (pc + 3) = .ok (.dup, 1)) (d4 : decode (mCo M) (pc + 4) = .ok (.invokespecial ic, 3)) (d7 : decode (mCo M) (pc + 7) = .ok (.athrow, 1))
    (hh : mHh M = []) (hcls : Bundle.fit (mEN E) = true) (hk : Cond.classLink (mOw M) ik (mEN E) ∈ mW0) (hini : Cond.initialized (mEN E) ∈ mW0)
    (hat : (vx_at0 (mOw M) ic (mEN E) ["java/lang/RuntimeException", "java/lang/Exception"]).all (fun w => decide (w ∈ lw_tbl) && ((goodWord w || mOth w) && vx_ot w)) = true)
    (hf : 6 ≤ mRf M) (hlo : 120 ≤ mRl M) (h8 : (st.map mCat).sum ≤ 8) : Ev G M pc lo st σ (.inr E) (mExc σ) := by
  refine ⟨⟨Nat.le_succ _, Nat.le_add_right _ _⟩, fun c0 z0 p l e R s m args below meth c H locs Q ls hF hS hK => ?_⟩
  obtain ⟨h1, h2, h3, h4, h5, h6, h7, h8', h9, h10⟩ := hS
  obtain ⟨Qc, XC, mc, ms, free, rfl, hX, hfr, hmc, hms⟩ := hK
  have hF0 := hF
  obtain ⟨f1, f2, f3, f4, f5, f6, f7, f8, f9, hal, f10, f11, f12, f13, f14, f15, hG⟩ := hF
  have hall := List.all_eq_true.mp hat
  have hex : c.exceptionTable.toList = [] := by rw [f9, hh]; rfl
  have hC : mC (mExc σ) = mC σ + 1 := rfl
  have hZz : mZ (mExc σ) = mZ σ + 6 := rfl
  have old : ∀ {q : Nat}, q < s.heap.size → ¬ (G.1.heap.size ≤ q) → s.heap[q]? = G.1.heap[q]? := fun _ h => f14 _ (Nat.not_le.mp h)
  have zq : ∀ (N D : String), vx_Zq Bundle.tN N D (fun q : Nat => G.1.heap.size ≤ q) G.1 G.1.heap → vx_Zq Bundle.tN N D (fun q : Nat => G.1.heap.size ≤ q) s s.heap := fun N D h =>
    (vx_Zq.moved hal h).kept fun a ha hA => f14 a ha
  refine vx_throw0 (A := fun q : Nat => G.1.heap.size ≤ q) f1 f2 f12 (own := mOw M) (cls := mEN E) (names := ["java/lang/RuntimeException", "java/lang/Exception"]) (ik := ik) (ic := ic) (mc := mc) (ms := ms) f4 hcls (fun n hn => ?_) (f5 _ hk) (f5 _ hini) (fun w hw => ?_) (fun w hw => ?_) (zq _ _ hG.2.2.2.1) (zq _ _ hG.2.2.2.2) ⟨h2, fun q hq hA => ?_, h3⟩ ?_ d0 d3 d4 d7 ?_ ?_ ?_ ?_ ?_ f6 ?_ ?_ ?_ ?_
  · simp only [List.mem_cons, List.not_mem_nil, or_false] at hn
    rcases hn with rfl | rfl <;> decide +kernel
  · have h := hall w hw
    simp only [Bool.and_eq_true, decide_eq_true_eq] at h
    exact nk_at f15.1 f5 h.1 h.2.1
  · rcases List.mem_cons.mp hw with rfl | hw
    · rfl
    · rcases List.mem_cons.mp hw with rfl | hw
      · rfl
      · have h := hall w hw
        simp only [Bool.and_eq_true, decide_eq_true_eq] at h
        exact h.2.2
  · rw [h1.2.1 q (Nat.not_le.mp hA), f14 q (Nat.not_le.mp hA)]
  · rw [h6.1, f3]
  · rw [hex]
    exact fun x hx => nomatch hx
  · show 2 + 3 < R.frames
    omega
  · rw [List.map_map, show ((fun v : Value => v.category) ∘ tv G) = mCat from funext fun v => tv_cat G v]
    show _ + (13 * (2 + 1) + 42) ≤ R.locals
    omega
  · rw [hC] at h9; omega
  · rw [hZz] at h10; omega
  · intro t ht hsz hkeep
    refine hX t ht ?_ (Nat.le_trans h2 hsz)
    obtain ⟨g1, g2, g3, g4, g5, g6⟩ := h1
    refine ⟨⟨Nat.le_trans g1.1 hsz, fun h => absurd h (by show ¬ (1 = 0); decide)⟩, fun q hq => ?_, g3, fun r t9 hr ht9 => ?_, g5, g6⟩
    · rw [hkeep q (by have := g1.1; omega)]
      exact g2 q hq
    · obtain ⟨k1, k2, k3⟩ := g4 r t9 hr ht9
      have hlt : mAD G r < H.size := by rw [ad_ge G hr]; have := g1.1; omega
      have hq := hkeep _ hlt
      refine ⟨k1, fun h50 q hq2 => ?_, fun t' e9 ty hty => ?_⟩
      · obtain ⟨m1, m2⟩ := k2 h50 q hq2
        exact ⟨m1, m2.kept hq⟩
      · rw [hq]
        exact k3 t' e9 ty hty
  · exact fun z hz => hfr _ (h3 z hz)
  · rw [hC] at hmc; omega
  · rw [hZz] at hms; omega
/-- a call that throws, by a method that lets it through -/
theorem ev_thrV {G : mG} {M M' : mM} {pc idx n a t : Nat} {C : String} {T : u_T} {N E : Nat} {lo : List (Nat × mV)} {as rest : List mV} {σ σ1 : mS} (d : decode (mCo M) pc = .ok (.invokevirtual idx, 3)) (hV : mVi M' n) (hl : Cond.methodLink (mOw M) idx (mNm M') ∈ mW0) (hn : as.length = n) (h8 : mSt8 rest)
    (hc : vwCl[t]? = some (C, T, N)) (hC : C = (mNm M').cls) (hs : (mH σ a).1 = t + 1) (hf : mRf M' + 1 ≤ mRf M) (hlo : 19 + mNl M' + mRl M' ≤ mRl M) (hh : mHh M = []) (hct : Ct G M' (vr a :: as) σ (.inr E) σ1) : Ev G M pc lo (as.reverse ++ vr a :: rest) σ (.inr E) σ1 := by
  refine ⟨hct.1, fun c0 z0 p l e R s m args below meth c H locs Q ls hF hS hK => ?_⟩
  obtain ⟨g1, g2, g3, g4, g5, g6, g7, g8, g9, g10⟩ := hS
  obtain ⟨Qc, XC, mc, ms, free, rfl, hX, hfr, hmc, hms⟩ := hK
  obtain ⟨k1, k2, k3, k4, k5, k6, k7, k8⟩ := hV
  obtain ⟨ha, hcell⟩ := rz_recv hF g1 hc hs
  have hin := wd_in k5 k1
  have h1 := (ok_rev g4).1
  have hfr9 := hF.2.2.2.2.2.2.2.2.2.2.1
  have hlr := hF.2.2.2.2.2.2.2.2.2.2.2.1
  have q1 := hct.1.1
  have q2 := hct.1.2
  have hrun : vx_Run p l e R s m args below meth c H locs (mC σ - c0) (mZ σ - z0) (mC σ1 - mC σ) (mZ σ1 - mZ σ) (F0 m pc ls ((as.reverse ++ vr a :: rest).map (tv G))) (rest.map (tv G)) (mQc G (.inr E) σ1 (Value.ref (mAD G a) :: as.map (tv G)).toArray) (mXC G (.inr E) σ1) (mFx G) := by
    refine vx_runV (As := as.map (tv G)) (C := (mNm M').cls) (b := mAD G a) (y := mNm M') (bytes := mCo M') (maxL := mNl M') (nL := mNl M) (ret := mRt M') (index := idx) (n := n) ⟨hF.1, hF.2.1, hF.2.2.1, hF.2.2.2.1, hF.2.2.2.2.1⟩ (hct.2 l) ?_ ⟨?_, hC ▸ hcell, ?_⟩ rfl ?_ g6.1 ?_ (st8 h8) d ⟨by omega, by omega⟩
    · refine cwV (Ts := mW0) n hF.2.2.2.2.1 (w0_of fun w hw => ?_) (wd_nh k5) rfl rfl ⟨rfl, k6, k7, k8⟩ ⟨by show mRf M' + 1 ≤ R.frames; omega, by show 8 + (mNl M' + 11) + mRl M' ≤ R.locals; omega⟩
      unfold wsV at hw
      rcases List.mem_append.mp hw with h | h
      · simp only [List.mem_cons, List.not_mem_nil, or_false] at h
        rcases h with rfl | rfl | rfl | rfl
        · exact hl
        · exact k2
        · exact k3
        · exact k4
      · exact hin w h
    · exact mU_blind
    · intro U hU hW
      exact ⟨by rw [List.map_cons, tv_r G ha], mU_at hF g1 (fun w hw => (List.mem_cons.mp hw).elim (fun e => by rw [e]; trivial) (h1 w)) U hU hW⟩
    · rw [List.length_map]; exact hn
    · show (as.reverse ++ vr a :: rest).map (tv G) = _
      rw [List.map_append, List.map_reverse, List.map_cons, tv_r G ha]
  intro T hT X
  rcases hrun T hT X with ⟨v1, st₀, t, T', L, e0, X', hL, e1, e2, ⟨v2, e3, -⟩, st⟩ | ⟨q, st₀, t, T', L, E9, ce, e0, X', hL, e1, e2, ⟨k, e3, e4, e5, e6⟩, hce, hcv, hcl, st⟩
  · cases e3
  · cases e3
    subst e4
    have hex : c.exceptionTable.toList = [] := by rw [hF.2.2.2.2.2.2.2.2.1, hh]; rfl
    have h9 : vx_W p l e R s m args below meth c T'.heap (locs ++ L) (mC σ - c0 + (mC σ1 - mC σ)) (mZ σ - z0 + (mZ σ1 - mZ σ)) (vx_MQ below Qc XC args s mc ms free) (F0 m pc ls (rest.map (tv G))) q :=
      vx_out (E := mEN E) (ce := ce) (by rw [hex]; exact fun x hx => nomatch hx) hF.2.2.2.2.2.1 (by rw [e1]; exact hce) hcv hcl (fun t9 ht9 hal9 => hX t9 hal9 (by rw [ht9, e1]; exact e5) (by rw [ht9, e1]; exact Nat.le_trans g2 (by rw [← e0]; exact e6))) (fun z hz => (List.mem_append.mp hz).elim (fun h => hfr _ (g3 z h)) (fun h => hfr _ (hL z h))) (by omega) (by omega)
    obtain ⟨t2, a1, b1⟩ := h9 T' rfl X'
    exact ⟨t2, st.trans a1, b1⟩
/-- pairs of the three classes that a catch passes over -/
def mNcs : List (String × String) := [(mEN 1, mEN 0), (mEN 2, mEN 0), (mEN 2, mEN 1)]
def mTe (q : Nat × Nat × Nat × Nat) : ExceptionTableEntry := ⟨q.1, q.2.1, q.2.2.1, q.2.2.2⟩
/-- a call that throws, caught here; the catch lays the exception into a place that nobody reads -/
theorem ev_catV {G : mG} {M M' : mM} {pc idx n a t i len : Nat} {ins : Instr} {C : String} {T : u_T} {N E : Nat} {lo lo' : List (Nat × mV)} {as rest : List mV} {σ σ1 τ : mS} {r : mX} (d : decode (mCo M) pc = .ok (.invokevirtual idx, 3)) (hV : mVi M' n) (hl : Cond.methodLink (mOw M) idx (mNm M') ∈ mW0) (hn : as.length = n) (h8 : mSt8 rest)
    (hc : vwCl[t]? = some (C, T, N)) (hC : C = (mNm M').cls) (hs : (mH σ a).1 = t + 1) (hf : mRf M' + 1 ≤ mRf M) (hlo : 19 + mNl M' + mRl M' ≤ mRl M) (hnc : ∀ q ∈ mNcs, va_Nc q.1 q.2 G.1)
    (pre : List (Nat × Nat × Nat × Nat)) (x : Nat × Nat × Nat × Nat) (suf : List (Nat × Nat × Nat × Nat)) (hsp : mHh M = pre ++ x :: suf) (hpass : ∀ z ∈ pre, z.2.2.2 ≠ 0 ∧ ∃ nm : String, Cond.classLink (mOw M) z.2.2.2 nm ∈ mW0 ∧ (mEN E, nm) ∈ mNcs) (hx : covers (mTe x) pc = true) (h0 : x.2.2.2 ≠ 0) (hlk : Cond.classLink (mOw M) x.2.2.2 (mEN E) ∈ mW0) (hcast : Cond.castable (mEN E) (mEN E) ∈ lw_tbl)
    (hct : Ct G M' (vr a :: as) σ (.inr E) σ1) (hst : (∃ k0 : Fin 4, ins = .astore_n k0 ∧ (k0 : Nat) = i ∧ len = 1) ∨ (ins = .astore i ∧ len = 2)) (ds : decode (mCo M) x.2.2.1 = .ok (ins, len)) (hi : i < mNl M) (elo : lo.filter (mK1 i) = lo') (kk : Ev G M (x.2.2.1 + len) lo' [] σ1 r τ) : Ev G M pc lo (as.reverse ++ vr a :: rest) σ r τ := by
  subst elo
  refine ⟨⟨Nat.le_trans hct.1.1 kk.1.1, Nat.le_trans hct.1.2 kk.1.2⟩, fun c0 z0 p l e R s m args below meth c H locs Q ls hF hS hK => ?_⟩
  obtain ⟨g1, g2, g3, g4, g5, g6, g7, g8, g9, g10⟩ := hS
  obtain ⟨k1, k2, k3, k4, k5, k6, k7, k8⟩ := hV
  obtain ⟨ha, hcell⟩ := rz_recv hF g1 hc hs
  have hin := wd_in k5 k1
  have h1 := (ok_rev g4).1
  have hfr9 := hF.2.2.2.2.2.2.2.2.2.2.1
  have hlr := hF.2.2.2.2.2.2.2.2.2.2.2.1
  have q1 := hct.1.1
  have q2 := hct.1.2
  have q3 := kk.1.1
  have q4 := kk.1.2
  have hrun : vx_Run p l e R s m args below meth c H locs (mC σ - c0) (mZ σ - z0) (mC σ1 - mC σ) (mZ σ1 - mZ σ) (F0 m pc ls ((as.reverse ++ vr a :: rest).map (tv G))) (rest.map (tv G)) (mQc G (.inr E) σ1 (Value.ref (mAD G a) :: as.map (tv G)).toArray) (mXC G (.inr E) σ1) (mFx G) := by
    refine vx_runV (As := as.map (tv G)) (C := (mNm M').cls) (b := mAD G a) (y := mNm M') (bytes := mCo M') (maxL := mNl M') (nL := mNl M) (ret := mRt M') (index := idx) (n := n) ⟨hF.1, hF.2.1, hF.2.2.1, hF.2.2.2.1, hF.2.2.2.2.1⟩ (hct.2 l) ?_ ⟨?_, hC ▸ hcell, ?_⟩ rfl ?_ g6.1 ?_ (st8 h8) d ⟨by omega, by omega⟩
    · refine cwV (Ts := mW0) n hF.2.2.2.2.1 (w0_of fun w hw => ?_) (wd_nh k5) rfl rfl ⟨rfl, k6, k7, k8⟩ ⟨by show mRf M' + 1 ≤ R.frames; omega, by show 8 + (mNl M' + 11) + mRl M' ≤ R.locals; omega⟩
      unfold wsV at hw
      rcases List.mem_append.mp hw with h | h
      · simp only [List.mem_cons, List.not_mem_nil, or_false] at h
        rcases h with rfl | rfl | rfl | rfl
        · exact hl
        · exact k2
        · exact k3
        · exact k4
      · exact hin w h
    · exact mU_blind
    · intro U hU hW
      exact ⟨by rw [List.map_cons, tv_r G ha], mU_at hF g1 (fun w hw => (List.mem_cons.mp hw).elim (fun e => by rw [e]; trivial) (h1 w)) U hU hW⟩
    · rw [List.length_map]; exact hn
    · show (as.reverse ++ vr a :: rest).map (tv G) = _
      rw [List.map_append, List.map_reverse, List.map_cons, tv_r G ha]
  intro T hT X
  rcases hrun T hT X with ⟨v1, st₀, t, T', L, e0, X', hL, e1, e2, ⟨v2, e3, -⟩, st⟩ | ⟨q, st₀, t, T', L, E9, ce, e0, X', hL, e1, e2, ⟨k, e3, e4, e5, e6⟩, hce, hcv, hcl, st⟩
  · cases e3
  · cases e3
    subst e4
    have ec : mC σ - c0 + (mC σ1 - mC σ) = mC σ1 - c0 := by omega
    have ez : mZ σ - z0 + (mZ σ1 - mZ σ) = mZ σ1 - z0 := by omega
    rw [ec, ez] at X'
    have hts := hF.2.2.2.2.1
    have hal := hF.2.2.2.2.2.2.2.2.2.1
    have hnk := hF.2.2.2.2.2.2.2.2.2.2.2.2.2.2.2.1.1
    have htab : c.exceptionTable.toList = pre.map mTe ++ mTe x :: suf.map mTe := by
      rw [hF.2.2.2.2.2.2.2.2.1, hsp]
      show List.map _ _ = _
      rw [List.map_append, List.map_cons]
      rfl
    have hgo : W p l e R s m args below meth c T'.heap (locs ++ L) (mC σ1 - c0) (mZ σ1 - z0) Q (F0 m x.2.2.1 ls [.ref q]) := by
      have hkk : ∀ ls' : Array Slot, lv_has ls' (mNl M) ((i, Value.ref q) :: (lo.map fun q => (q.1, tv G q.2)).filter (fun q => !(q.1 == i) && !(q.1 + 1 == i && q.2.category == 2))) → W p l e R s m args below meth c T'.heap (locs ++ L) (mC σ1 - c0) (mZ σ1 - z0) Q (F0 m (x.2.2.1 + len) ls' ([].map (tv G))) := by
        intro ls' hl'
        have e9 : (lo.map fun q => (q.1, tv G q.2)).filter (fun q => !(q.1 == i) && !(q.1 + 1 == i && q.2.category == 2)) = (lo.filter (mK1 i)).map fun q => (q.1, tv G q.2) := by
          have := lo_set1 G lo i (vr 0)
          rw [List.map_cons] at this
          exact (List.cons.inj this).2
        rw [e9] at hl'
        refine kk.2 c0 z0 p l e R s m args below meth c T'.heap (locs ++ L) Q ls' hF ⟨by rw [e1]; exact e5, by rw [e1]; exact Nat.le_trans g2 (by rw [← e0]; exact e6), fun x hx => (List.mem_append.mp hx).elim (g3 x) (hL x), fun v hv => (by cases hv), fun q hq => g5 q (List.mem_filter.mp hq).1, ⟨hl'.1, hl'.2.1, fun q hq => hl'.2.2 q (List.mem_cons_of_mem _ hq)⟩, by omega, by omega, g9, g10⟩ hK
      rcases hst with ⟨k0, rfl, hk0, rfl⟩ | ⟨rfl, rfl⟩
      · exact lv_astore_n hF.1 hF.2.1 ds hk0 g6 hi rfl hkk
      · exact lv_astore hF.1 hF.2.1 ds g6 hi rfl hkk
    have h9 : vx_W p l e R s m args below meth c T'.heap (locs ++ L) (mC σ1 - c0) (mZ σ1 - z0) Q (F0 m pc ls (rest.map (tv G))) q :=
      vx_catch (own := mOw M) (name := mEN E) (E := mEN E) (ce := ce) hF.2.2.2.1 (pre.map mTe) (mTe x) (suf.map mTe) htab (fun z hz => by
        obtain ⟨w, hw, rfl⟩ := List.mem_map.mp hz
        obtain ⟨z0', nm, hz1, hz2⟩ := hpass w hw
        exact Or.inr ⟨z0', nm, hts _ hz1, va_Nc.moved hal (hnc _ hz2)⟩) hx h0 (hts _ hlk) (nk_at hnk hts hcast rfl) (by rw [e1]; exact hce) hcv hcl hgo
    obtain ⟨t2, a1, b1⟩ := h9 T' rfl X'
    exact ⟨t2, st.trans a1, b1⟩
