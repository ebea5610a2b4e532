/-! rows still open: rows of rows, texts -/
def mMul (σ : mS) (tg ug n k : Nat) : mS := ((σ.1.1 + 1 + n, σ.1.2.1 + n + n * k, σ.1.2.2.1 + 1 + n, σ.1.2.2.2),
  (fun b => if b = 32 + σ.1.2.2.1 then (tg, n) else if 32 + σ.1.2.2.1 < b ∧ b ≤ 32 + σ.1.2.2.1 + n then (ug, k) else σ.2.1 b),
  (fun b j => if 32 + σ.1.2.2.1 ≤ b ∧ b ≤ 32 + σ.1.2.2.1 + n then 0 else σ.2.2.1 b j), (fun b j => if 32 + σ.1.2.2.1 ≤ b ∧ b ≤ 32 + σ.1.2.2.1 + n then 0 else σ.2.2.2.1 b j),
  (fun b j => if b = 32 + σ.1.2.2.1 then (if j < n then 32 + σ.1.2.2.1 + 1 + j else 0) else if 32 + σ.1.2.2.1 < b ∧ b ≤ 32 + σ.1.2.2.1 + n then 0 else σ.2.2.2.2 b j))
def nwM (σ : mS) (t u : Nat) (n k : Int) : Option mS := if mF σ = 0 ∧ 0 ≤ n ∧ 0 ≤ k ∧ n ≤ 10000 ∧ k ≤ 10000 then some (mMul σ (51 + t) (51 + u) n.toNat k.toNat) else none
theorem mul_outer (G : mG) (c : ClassId) (n h0 r0 : Nat) (hr0 : 32 ≤ r0) (hh : mAD G r0 = h0) : ∀ i : Nat, Jvm.Free.Multi.outerC c n h0 i = arrV c n (fun j => tv G (vr (if j < i then r0 + 1 + j else 0)))
  | 0 => by
    show ({ cls := c, slots := Array.replicate n .null, vm := .none } : Cell) = _
    rw [arrV_new]
    refine congrArg (arrV c n) (funext fun j => ?_)
    simp [tv]
  | i + 1 => by
    show (Jvm.Free.Multi.outerC c n h0 i).setSlot i (.ref (h0 + 1 + i)) = _
    rw [mul_outer G c n h0 r0 hr0 hh i, arrV_store]
    refine congrArg (arrV c n) (funext fun j => ?_)
    show updV (fun j => tv G (vr (if j < i then r0 + 1 + j else 0))) i (.ref (h0 + 1 + i)) j = tv G (vr (if j < i + 1 then r0 + 1 + j else 0))
    unfold updV
    by_cases e : j = i
    · rw [if_pos e, e, if_pos (Nat.lt_succ_self i), tv_r G (by omega)]
      have h2 := ad_ge G (r := r0 + 1 + i) (by omega)
      have h3 := ad_ge G hr0
      rw [hh] at h3
      have h4 : mAD G (r0 + 1 + i) = h0 + 1 + i := by omega
      rw [h4]
    · rw [if_neg e]
      show tv G (vr (if j < i then r0 + 1 + j else 0)) = _
      by_cases h : j < i
      · rw [if_pos h, if_pos (by omega)]
      · rw [if_neg h, if_neg (by omega)]
theorem tv_mul (G : mG) (ty : FieldType) (σ : mS) (tg ug n k r j : Nat) (h : r < 32 + mN σ ∨ 32 + mN σ + n < r) : mTv G ty (mMul σ tg ug n k) r j = mTv G ty σ r j := by
  have h1 : ¬ (32 + σ.1.2.2.1 ≤ r ∧ r ≤ 32 + σ.1.2.2.1 + n) := by show ¬ (32 + mN σ ≤ r ∧ r ≤ 32 + mN σ + n); omega
  have h2 : ¬ r = 32 + σ.1.2.2.1 := by show ¬ r = 32 + mN σ; omega
  have h3 : ¬ (32 + σ.1.2.2.1 < r ∧ r ≤ 32 + σ.1.2.2.1 + n) := by show ¬ (32 + mN σ < r ∧ r ≤ 32 + mN σ + n); omega
  cases ty <;> first | exact congrArg (fun z => Value.int (Int32.ofInt z)) (if_neg h1) | exact congrArg (fun z => Value.long (Int64.ofBitVec z)) (if_neg h1) | exact congrArg (fun z => tv G (vr z)) ((if_neg h2).trans (if_neg h3))
theorem tv_mulI (G : mG) (ty : FieldType) (σ : mS) (tg ug n k r j : Nat) (h1 : 32 + mN σ < r) (h2 : r ≤ 32 + mN σ + n) : mTv G ty (mMul σ tg ug n k) r j = mDv ty := by
  have e1 : 32 + σ.1.2.2.1 ≤ r ∧ r ≤ 32 + σ.1.2.2.1 + n := by show 32 + mN σ ≤ r ∧ r ≤ 32 + mN σ + n; omega
  have e2 : ¬ r = 32 + σ.1.2.2.1 := by show ¬ r = 32 + mN σ; omega
  have e3 : 32 + σ.1.2.2.1 < r ∧ r ≤ 32 + σ.1.2.2.1 + n := ⟨h1, h2⟩
  cases ty <;> first | exact congrArg (fun z => Value.int (Int32.ofInt z)) (if_pos e1) | exact congrArg (fun z => Value.long (Int64.ofBitVec z)) (if_pos e1) | exact congrArg (fun z => tv G (vr z)) ((if_neg e2).trans (if_pos e3))
theorem rz_mul {G : mG} {σ : mS} {H H' : Heap} {t u n k : Nat} {ty : FieldType} (hZ : mRZ G σ H) (h0 : mF σ = 0) (ht : mAT[t]? = some (.array ty)) (hu : mAT[u]? = some ty) (hsz : H'.size = H.size + 1 + n) (ho : ∀ q : Nat, q < H.size → H'[q]? = H[q]?)
    (ho1 : H'[H.size]? = some (arrV (G.2.2.2.2.1 t) n (fun j => tv G (vr (if j < n then 32 + mN σ + 1 + j else 0))))) (hi1 : ∀ j, j < n → H'[H.size + 1 + j]? = some (arrV (G.2.2.2.2.1 u) k (fun _ => mDv ty))) : mRZ G (mMul σ (51 + t) (51 + u) n k) H' := by
  obtain ⟨g1, g2, g3, g4, g5, g6, scr, g7, g8, g9, g10, g11⟩ := hZ
  have hH := g1.2 h0
  have hn : mN (mMul σ (51 + t) (51 + u) n k) = mN σ + 1 + n := rfl
  have hne : ∀ r, (r < 32 + mN σ ∨ 32 + mN σ + n < r) → mH (mMul σ (51 + t) (51 + u) n k) r = mH σ r := fun r h => (if_neg (by show ¬ r = 32 + mN σ; omega)).trans (if_neg (by show ¬ (32 + mN σ < r ∧ r ≤ 32 + mN σ + n); omega))
  refine ⟨⟨by rw [hn]; omega, fun _ => by rw [hn]; omega⟩, fun q hq => ?_, fun r j => ?_, fun r t9 h16 ht9 => ?_, fun r hr hr1 => ?_, ?_⟩
  · rw [ho q (by omega)]
    exact g2 q hq
  · show mIn (if 32 + σ.1.2.2.1 ≤ r ∧ r ≤ 32 + σ.1.2.2.1 + n then 0 else σ.2.2.1 r j)
    split
    · exact mIn0
    · exact g3 r j
  · by_cases hr : r = 32 + mN σ
    · subst hr
      have hsh : mH (mMul σ (51 + t) (51 + u) n k) (32 + mN σ) = (51 + t, n) := if_pos rfl
      rw [hsh] at ht9
      have ht9' : 51 + t = t9 + 1 := ht9
      refine ⟨by rw [hn]; omega, fun h50 => by omega, fun t' e => ?_⟩
      have : t' = t := by omega
      subst this
      intro ty2 hty2
      cases ht.symm.trans hty2
      rw [hsh, ad_ge G (by omega), show G.1.heap.size + (32 + mN σ - 32) = H.size by omega, ho1]
      exact congrArg (fun f => some (arrV _ _ f)) (funext fun j => congrArg (fun z => tv G (vr z)) (if_pos rfl).symm)
    · by_cases hin : 32 + mN σ < r ∧ r ≤ 32 + mN σ + n
      · have hsh : mH (mMul σ (51 + t) (51 + u) n k) r = (51 + u, k) := (if_neg hr).trans (if_pos hin)
        rw [hsh] at ht9
        have ht9' : 51 + u = t9 + 1 := ht9
        refine ⟨by rw [hn]; omega, fun h50 => by omega, fun t' e => ?_⟩
        have : t' = u := by omega
        subst this
        intro ty2 hty2
        cases hu.symm.trans hty2
        rw [hsh, ad_ge G (by omega), show G.1.heap.size + (r - 32) = H.size + 1 + (r - 32 - mN σ - 1) by omega, hi1 _ (by omega)]
        exact congrArg (fun f => some (arrV _ _ f)) (funext fun j => (tv_mulI G ty σ _ _ n k r j hin.1 hin.2).symm)
      · have hout : r < 32 + mN σ ∨ 32 + mN σ + n < r := by omega
        rw [hne r hout] at ht9
        obtain ⟨k1, k2, k3⟩ := g4 r t9 h16 ht9
        have hq := ho (mAD G r) (by rw [ad_ge G h16]; omega)
        refine ⟨by rw [hn]; omega, fun h50 q hq2 => ?_, fun t' e ty hty => ?_⟩
        · obtain ⟨m1, m2⟩ := k2 h50 q hq2
          exact ⟨by rw [hne r hout]; exact m1, (m2.kept hq).to fun j _ => (tv_mul G _ σ _ _ n k r j hout).symm⟩
        · rw [hq, k3 t' e ty hty, hne r hout]
          exact congrArg (fun f => some (arrV _ _ f)) (funext fun i => (tv_mul G ty σ _ _ n k r i hout).symm)
  · rw [hne r (by omega)]
    exact g5 r hr hr1
  · rw [hne 1 (by omega)]
    refine ⟨g6, scr, g7, g8, g9, g10, fun i hi => ?_⟩
    rw [show mI (mMul σ (51 + t) (51 + u) n k) 1 i = mI σ 1 i from if_neg (by show ¬ (32 + mN σ ≤ 1 ∧ _); omega)]
    exact g11 i hi
theorem ew_mnew {G : mG} {M : mM} {pc idx : Nat} {lo : List (Nat × mV)} {st : List mV} {σ σ' τ : mS} {r : mX} (t u : Nat) {ty : FieldType} {n k : Int} (d : decode (mCo M) pc = .ok (.multianewarray idx 2, 4)) (ht : mAT[t]? = some (.array ty)) (hu : mAT[u]? = some ty) (hl : Cond.classLink (mOw M) idx ("[" ++ (FieldType.array ty).toString) ∈ mW0) (hov : Cond.arrayOver (.array ty) ∈ lw_tbl) (hw : Cond.arrayClass ty ∈ mW0)
    (g : nwM σ t u n k = some σ') (kk : Ev G M (pc + 4) lo (vr (32 + mN σ) :: st) σ' r τ) : Ev G M pc lo (vi k :: vi n :: st) σ r τ := by
  unfold nwM at g
  split at g
  case isFalse => cases g
  case isTrue c9 =>
  obtain ⟨h0, hn0, hk0, hn1, hk1⟩ := c9
  cases g
  have hdv : defaultValue ty = mDv ty ∧ fits ty (defaultValue ty) = true ∧ (defaultValue ty).isDefault = true ∧ componentBytes ty ≤ 8 := by
    have hul : u < 11 := (List.getElem?_eq_some_iff.mp hu).1
    have : u = 0 ∨ u = 1 ∨ u = 2 ∨ u = 3 ∨ u = 4 ∨ u = 5 ∨ u = 6 ∨ u = 7 ∨ u = 8 ∨ u = 9 ∨ u = 10 := by omega
    rcases this with rfl | rfl | rfl | rfl | rfl | rfl | rfl | rfl | rfl | rfl | rfl <;> (cases hu; exact ⟨by decide +kernel, by decide +kernel, by decide +kernel, by decide +kernel⟩)
  refine Ev.make (σ' := mMul σ (51 + t) (51 + u) n.toNat k.toNat) (1 + n.toNat) (n.toNat + n.toNat * k.toNat) (Nat.add_assoc _ _ _) (Nat.add_assoc _ _ _) (fun h => ok_c ok_r (ok_t (ok_t h))) (fun p l e R s m args below meth c H locs cells slots Q ls hF hZ hst hsz hcl hsl kw => ?_) kk
  have hts := hF.2.2.2.2.1
  have hnk := hF.2.2.2.2.2.2.2.2.2.2.2.2.2.2.2.1.1
  have hki : mIn k := ok_h hst
  have hni : mIn n := ok_h (ok_t hst)
  have ecn : (Int32.ofInt n).toNatClampNeg = n.toNat := oi_cl hni
  have eck : (Int32.ofInt k).toNatClampNeg = k.toNat := oi_cl hki
  have hb : k.toNat * componentBytes ty ≤ k.toNat * 8 := Nat.mul_le_mul_left _ hdv.2.2.2
  intro T hT X
  obtain ⟨vm₁, cA, comp, -, fA, fC, -, -, X', step⟩ := X.multianewarray2F hF.1 hF.2.2.2.1 (hts _ hl) (nk_at hnk hts hov rfl) (hts _ hw) (g := F0 m pc ls (.int (Int32.ofInt k) :: .int (Int32.ofInt n) :: st.map (tv G))) rfl (by rw [hF.2.1]; exact d) rfl (fun h => absurd ((oi_lt hni mIn0).1 h) (by omega)) (fun h => absurd ((oi_lt hki mIn0).1 h) (by omega)) (by rw [ecn]; omega) (by rw [eck]; omega) (by rw [eck]; omega) hdv.2.1 hdv.2.2.1 (by rw [ecn]; exact hcl) (by rw [ecn, eck]; exact hsl)
  rw [ecn, eck, hdv.1] at X' step
  obtain ⟨kA1, comp1, a1, a2, a3, -⟩ := gf_arr hF ht
  obtain ⟨kA2, comp2, b1, b2, b3, -⟩ := gf_arr hF hu
  have hcA : G.2.2.2.2.1 t = cA := Option.some.inj (a3.symm.trans fA)
  have hcC : G.2.2.2.2.1 u = comp := Option.some.inj (b3.symm.trans fC)
  have hH := hZ.1.2 h0
  have hAD : mAD G (32 + mN σ) = H.size := by rw [ad_ge G (by omega)]; omega
  have hTh : (T.setVm vm₁).heap = H := hT
  obtain ⟨f1, f2, -, -⟩ := Jvm.Free.Multi.fill_facts (T.setVm vm₁) cA comp n.toNat k.toNat (mDv ty) n.toNat
  have f3 := fun x hx => Jvm.Free.Multi.fill_old (T.setVm vm₁) cA comp n.toNat k.toNat (mDv ty) (a := x) hx n.toNat
  have f4 := Jvm.Free.Multi.fill_inner (T.setVm vm₁) cA comp n.toNat k.toNat (mDv ty) n.toNat
  generalize Jvm.Free.Multi.fill (T.setVm vm₁) cA comp n.toNat k.toNat (mDv ty) n.toNat = F at X' step f1 f2 f3 f4
  rw [hTh] at f1 f2 f3 f4
  rw [mul_outer G cA n.toNat H.size (32 + mN σ) (by omega) hAD n.toNat] at f2
  have hZ' : mRZ G (mMul σ (51 + t) (51 + u) n.toNat k.toNat) F.heap := by
    refine rz_mul hZ h0 ht hu f1 f3 (by rw [hcA]; exact f2) (fun j hj => ?_)
    rw [f4 j hj, hcC, ← arrV_new]
    rfl
  have hw9 := kw F.heap hZ' (by omega)
  rw [List.map_cons, tv_r G (by omega), hAD] at hw9
  have ec : cells + (1 + n.toNat) = cells + 1 + n.toNat := (Nat.add_assoc _ _ _).symm
  have ez : slots + (n.toNat + n.toNat * k.toNat) = slots + n.toNat + n.toNat * k.toNat := (Nat.add_assoc _ _ _).symm
  rw [ec, ez] at hw9
  obtain ⟨t2, c1, c2⟩ := hw9 F rfl X'
  refine ⟨t2, step t2 ?_, c2⟩
  rw [show T.heap.size = H.size by rw [hT]]
  exact c1
/-! texts: constants, length, charAt -/
section STR
variable {G : mG} {M : mM} {pc idx : Nat} {lo : List (Nat × mV)} {st : List mV} {σ τ : mS} {r : mX}
theorem ad_lt (G : mG) {a : Nat} (h1 : 2 ≤ a) (h2 : a < 32) : mAD G a = G.2.2.2.2.2 a := by unfold mAD; rw [if_neg (by omega), if_pos h2]
theorem st_gt {p : Program} {l : Launch} {R : Room} {s : State} {m : MethodId} {args : Array Value} {meth : Method} {c : Code} (hF : mFr G M p l R s m args meth c) : mGT G := hF.2.2.2.2.2.2.2.2.2.2.2.2.2.2.2.1.2.2
theorem st_hq {H : Heap} (hZ : mRZ G σ H) : ∀ a : Nat, a < G.1.heap.size → ¬ (G.1.heap.size ≤ a) → H[a]? = G.1.heap[a]? := fun a h _ => hZ.2.1 a h
theorem st_ldcw {p : Program} {l : Launch} {e : Env} {R : Room} {s : State} {m : MethodId} {args : Array Value} {below : List Frame} {meth : Method} {c : Code} {T : State} {locs : List Loc} {cells slots : Nat}
    (X : Stand p l e R s m args below meth c T locs cells slots) (hexec : p.tables.exec = Jvm.exec) {own text : String} {index : Nat} {a : Addr} (hown : s.vm.findClass own = some m.cls)
    (hconst : (Cond.stringRef own index text).before args s = true) (hev : (Term.string own index).eval args s none [] s = some (.ref a)) {g : JFrame} (hg : g.method = m) (hdg : decode c.code g.pc = .ok (.ldc_w index, 3)) :
    ∀ target, Steps p.tables e below (T.setTop { g with pc := g.pc + 3, stack := .ref a :: g.stack }) target → Steps p.tables e below (T.setTop g) target := by
  obtain ⟨k, cf, i, a', hk, hcf, hcp, -, hr, hev'⟩ := Cond.stringRef_spec hown hconst
  cases hev.symm.trans hev'
  obtain ⟨k', hk', he⟩ := X.warmed.alike.2.2 _ _ hk
  have hr' : k'.resolved[index]? = some (some (.string a)) := by
    rcases X.warmed.entry hk hk' index with h | ⟨h, -⟩
    · rw [h]; exact hr
    · rw [hr] at h; cases h
  intro target hrest
  subst hg
  jvm_step X.here [hexec, hdg, ldc_w.wp_string (e := e) (s := T) (f := g) X.here.top hk' (by rw [he]; exact hcf) hcp hr']
  exact hrest
theorem ew_lds (j : Nat) {text : String} (d : decode (mCo M) pc = .ok (.ldc idx, 2)) (hj : mStrT[j]? = some text) (hw : Cond.stringRef (mOw M) idx text ∈ lw_tbl) (kk : Ev G M (pc + 2) lo (vr (2 + j) :: st) σ r τ) : Ev G M pc lo st σ r τ := by
  have hj12 : j < 12 := (List.getElem?_eq_some_iff.mp hj).1
  refine Ev.step (fun a b => ⟨ok_c ok_r a, b⟩) (fun p l e R s m args below meth c H locs cells slots Q ls hF hZ hls hst hlo kw => ?_) kk
  have hv := hF.2.2.2.2.2.2.2.2.2.2.2.2.2.2.2.1.2.1 (mOw M) idx text j hw hj
  have hw9 := kw ls hls
  have e0 : (vr (2 + j) :: st).map (tv G) = .ref (G.2.2.2.2.2 (2 + j)) :: st.map (tv G) := by rw [List.map_cons, tv_r G (by omega), ad_lt G (by omega) (by omega)]
  rw [e0] at hw9
  exact va_ldcS hF.1 hF.2.1 hF.2.2.2.1 hv d hw9
theorem ew_ldsw (j : Nat) {text : String} (d : decode (mCo M) pc = .ok (.ldc_w idx, 3)) (hj : mStrT[j]? = some text) (hw : Cond.stringRef (mOw M) idx text ∈ lw_tbl) (kk : Ev G M (pc + 3) lo (vr (2 + j) :: st) σ r τ) : Ev G M pc lo st σ r τ := by
  have hj12 : j < 12 := (List.getElem?_eq_some_iff.mp hj).1
  refine Ev.step (fun a b => ⟨ok_c ok_r a, b⟩) (fun p l e R s m args below meth c H locs cells slots Q ls hF hZ hls hst hlo kw => ?_) kk
  have hv := hF.2.2.2.2.2.2.2.2.2.2.2.2.2.2.2.1.2.1 (mOw M) idx text j hw hj
  have hw9 := kw ls hls
  have e0 : (vr (2 + j) :: st).map (tv G) = .ref (G.2.2.2.2.2 (2 + j)) :: st.map (tv G) := by rw [List.map_cons, tv_r G (by omega), ad_lt G (by omega) (by omega)]
  rw [e0] at hw9
  intro T hT X
  obtain ⟨t, a1, b1⟩ := hw9 T hT X
  have hvr := vk_R.of (A := args) hv.1 hv.2
  exact ⟨t, st_ldcw X hF.1 hF.2.2.2.1 (text := text) (a := G.2.2.2.2.2 (2 + j)) hvr.1 hvr.2 (g := F0 m pc ls (st.map (tv G))) rfl (by rw [hF.2.1]; exact d) t a1, b1⟩
theorem ev_gfV {j : Nat} (hj : j < 12) (d : decode (mCo M) pc = .ok (.getfield idx, 3)) (hl : Cond.fieldLink (mOw M) idx "java/lang/String" "value" "[B" ∈ mW0) (kk : Ev G M (pc + 3) lo (vr (14 + j) :: st) σ r τ) : Ev G M pc lo (vr (2 + j) :: st) σ r τ := by
  refine Ev.step (fun a b => ⟨ok_c ok_r (ok_t a), b⟩) (fun p l e R s m args below meth c H locs cells slots Q ls hF hZ hls hst hlo kw => ?_) kk
  obtain ⟨-, -, h9, -⟩ := (st_gt hF).1 j hj
  obtain ⟨cf, k, fi, f, cell, h1, h2, h3, h4, h5, h6⟩ := (va_OF.moved hF.2.2.2.2.2.2.2.2.2.1 h9).kept (st_hq hZ)
  have hw := kw ls hls
  have e0 : (vr (2 + j) :: st).map (tv G) = .ref (G.2.2.2.2.2 (2 + j)) :: st.map (tv G) := by rw [List.map_cons, tv_r G (by omega), ad_lt G (by omega) (by omega)]
  have e1 : (vr (14 + j) :: st).map (tv G) = .ref (G.2.2.2.2.2 (14 + j)) :: st.map (tv G) := by rw [List.map_cons, tv_r G (by omega), ad_lt G (by omega) (by omega)]
  rw [e1] at hw
  rw [e0]
  exact W.getf hF.1 hF.2.1 hF.2.2.2.1 (hF.2.2.2.2.1 _ hl) h1 h2 h3 h4 h5 rfl rfl d hw
theorem ev_gfC {j : Nat} (hj : j < 12) (d : decode (mCo M) pc = .ok (.getfield idx, 3)) (hl : Cond.fieldLink (mOw M) idx "java/lang/String" "coder" "B" ∈ mW0) (kk : Ev G M (pc + 3) lo (vi 0 :: st) σ r τ) : Ev G M pc lo (vr (2 + j) :: st) σ r τ := by
  refine Ev.step (fun a b => ⟨ok_c (v := vi 0) mIn0 (ok_t a), b⟩) (fun p l e R s m args below meth c H locs cells slots Q ls hF hZ hls hst hlo kw => ?_) kk
  obtain ⟨-, h9, -, -⟩ := (st_gt hF).1 j hj
  obtain ⟨cf, k, fi, f, cell, h1, h2, h3, h4, h5, h6⟩ := (va_OF.moved hF.2.2.2.2.2.2.2.2.2.1 h9).kept (st_hq hZ)
  have hw := kw ls hls
  have e0 : (vr (2 + j) :: st).map (tv G) = .ref (G.2.2.2.2.2 (2 + j)) :: st.map (tv G) := by rw [List.map_cons, tv_r G (by omega), ad_lt G (by omega) (by omega)]
  rw [e0]
  exact W.getf hF.1 hF.2.1 hF.2.2.2.1 (hF.2.2.2.2.1 _ hl) h1 h2 h3 h4 h5 rfl rfl d hw
theorem ev_gsC (d : decode (mCo M) pc = .ok (.getstatic idx, 3)) (hl : Cond.fieldLink (mOw M) idx "java/lang/String" "COMPACT_STRINGS" "Z" ∈ mW0) (kk : Ev G M (pc + 3) lo (vi 1 :: st) σ r τ) : Ev G M pc lo st σ r τ := by
  refine Ev.step (fun a b => ⟨ok_c (v := vi 1) (by show mIn 1; unfold mIn; omega) a, b⟩) (fun p l e R s m args below meth c H locs cells slots Q ls hF hZ hls hst hlo kw => ?_) kk
  have hal := hF.2.2.2.2.2.2.2.2.2.1
  obtain ⟨cf, kf, fi, f, a, cell, h1, h2, h3, h4, h5, h6, h7, h8⟩ := va_Z.kept (va_Z.moved hal (st_gt hF).2.1) (st_hq hZ)
  exact W.gets hF.1 hF.2.1 hF.2.2.2.1 (hF.2.2.2.2.1 _ hl) h1 h2 h3 h4 h5 (fun e => by rw [e] at h6; cases h6) h7 rfl d (kw ls hls)
theorem ev_gsF (d : decode (mCo M) pc = .ok (.getstatic idx, 3)) (hl : Cond.fieldLink (mOw M) idx "jdk/internal/util/Preconditions" "SIOOBE_FORMATTER" "Ljava/util/function/BiFunction;" ∈ mW0) (kk : ∀ f : Nat, Ev G M (pc + 3) lo (vr f :: st) σ r τ) : Ev G M pc lo st σ r τ := by
  by_cases hn : va_Z "jdk/internal/util/Preconditions" "SIOOBE_FORMATTER" "Ljava/util/function/BiFunction;" .null (fun q : Nat => G.1.heap.size ≤ q) G.1 G.1.heap
  · refine Ev.step (fun a b => ⟨ok_c (v := vr 0) ok_r a, b⟩) (fun p l e R s m args below meth c H locs cells slots Q ls hF hZ hls hst hlo kw => ?_) (kk 0)
    obtain ⟨cf, kf, fi, f, a, cell, h1, h2, h3, h4, h5, h6, h7, h8⟩ := va_Z.kept (va_Z.moved hF.2.2.2.2.2.2.2.2.2.1 hn) (st_hq hZ)
    exact W.gets hF.1 hF.2.1 hF.2.2.2.1 (hF.2.2.2.2.1 _ hl) h1 h2 h3 h4 h5 (fun e => by rw [e] at h6; cases h6) h7 rfl d (kw ls hls)
  · refine Ev.step (fun a b => ⟨ok_c ok_r a, b⟩) (fun p l e R s m args below meth c H locs cells slots Q ls hF hZ hls hst hlo kw => ?_) (kk 26)
    have hal := hF.2.2.2.2.2.2.2.2.2.1
    obtain ⟨cf, kf, fi, f, a, cell, h1, h2, h3, h4, h5, h6, h7, h8⟩ := va_Z.kept (va_Z.moved hal ((st_gt hF).2.2.resolve_left hn)) (st_hq hZ)
    have hw := kw ls hls
    have e0 : (vr 26 :: st).map (tv G) = .ref (G.2.2.2.2.2 26) :: st.map (tv G) := by rw [List.map_cons, tv_r G (by omega), ad_lt G (by omega) (by omega)]
    rw [e0] at hw
    exact W.gets hF.1 hF.2.1 hF.2.2.2.1 (hF.2.2.2.2.1 _ hl) h1 h2 h3 h4 h5 (fun e => by rw [e] at h6; cases h6) h7 rfl d hw
theorem str_len : ∀ j, j < 12 → ((mStr.getD j []).length : Int) < 100 := by decide +kernel
theorem str_in : ∀ j, j < 12 → ∀ i, i < (mStr.getD j []).length → 0 ≤ (mStr.getD j []).getD i 0 ∧ (mStr.getD j []).getD i 0 < 128 := by decide +kernel
theorem ev_alnS {j : Nat} (hj : j < 12) (d : decode (mCo M) pc = .ok (.arraylength, 1)) (kk : Ev G M (pc + 1) lo (vi ((mStr.getD j []).length : Nat) :: st) σ r τ) : Ev G M pc lo (vr (14 + j) :: st) σ r τ := by
  have hl9 := str_len j hj
  refine Ev.step (fun a b => ⟨ok_c (by show mIn _; unfold mIn; omega) (ok_t a), b⟩) (fun p l e R s m args below meth c H locs cells slots Q ls hF hZ hls hst hlo kw => ?_) kk
  obtain ⟨-, -, -, h9⟩ := (st_gt hF).1 j hj
  obtain ⟨cell, h1, h2, h3, h4, h5, h6, h7⟩ := (va_T.moved hF.2.2.2.2.2.2.2.2.2.1 h9).kept (st_hq hZ)
  have hw := kw ls hls
  have e0 : (vr (14 + j) :: st).map (tv G) = .ref (G.2.2.2.2.2 (14 + j)) :: st.map (tv G) := by rw [List.map_cons, tv_r G (by omega), ad_lt G (by omega) (by omega)]
  rw [e0]
  exact W.alen hF.1 hF.2.1 h1 h2 (n := Int32.ofInt ((mStr.getD j []).length : Nat)) (by rw [h5, Int32.ofInt_eq_ofNat]) rfl rfl d hw
theorem ev_baldS {j : Nat} (hj : j < 12) {i : Int} (h0 : 0 ≤ i) (hn : i < ((mStr.getD j []).length : Nat)) (d : decode (mCo M) pc = .ok (.baload, 1)) (kk : Ev G M (pc + 1) lo (vi ((mStr.getD j []).getD i.toNat 0) :: st) σ r τ) : Ev G M pc lo (vi i :: vr (14 + j) :: st) σ r τ := by
  have hin := str_in j hj i.toNat (by omega)
  refine Ev.step (fun a b => ⟨ok_c (v := vi _) (by show mIn _; unfold mIn; omega) (ok_t (ok_t a)), b⟩) (fun p l e R s m args below meth c H locs cells slots Q ls hF hZ hls hst hlo kw => ?_) kk
  obtain ⟨-, -, -, h9⟩ := (st_gt hF).1 j hj
  obtain ⟨cell, h1, h2, h3, h4, h5, h6, h7⟩ := (va_T.moved hF.2.2.2.2.2.2.2.2.2.1 h9).kept (st_hq hZ)
  have hi : mIn i := ok_h hst
  have hw := kw ls hls
  have e0 : (vi i :: vr (14 + j) :: st).map (tv G) = .int (Int32.ofInt i) :: .ref (G.2.2.2.2.2 (14 + j)) :: st.map (tv G) := by rw [List.map_cons, List.map_cons, tv_r G (by omega), ad_lt G (by omega) (by omega)]; rfl
  rw [e0]
  have hb := ix_in (n := (mStr.getD j []).length) hi h0 hn
  exact W.bald hF.1 hF.2.1 h1 h2 h3 (fun h => hb (h.imp id fun q => Nat.le_trans h4 q)) (v := tv G (vi ((mStr.getD j []).getD i.toNat 0))) (by rw [ix_cl hi, h6 _ (by omega)]; rfl) rfl rfl d hw
def mi2c (x : Int) : Int := ((Int32.ofInt x).toUInt32 % 65536).toInt32.toInt
theorem ev_i2c {x : Int} (d : decode (mCo M) pc = .ok (.i2c, 1)) (k : Ev G M (pc + 1) lo (vi (mi2c x) :: st) σ r τ) : Ev G M pc lo (vi x :: st) σ r τ := by
  refine Ev.step (fun a b => ⟨ok_c (ok_i _) (ok_t a), b⟩) (fun p l e R s m args below meth c H locs cells slots Q ls hF hZ hl hst hlo kk => lv_i2c hF.1 hF.2.1 d rfl ?_) k
  have h := kk ls hl
  rw [List.map_cons, tv_i, oi_back] at h
  exact h
end STR
theorem ev_callVT {G : mG} {M M' : mM} {pc idx n j : Nat} {lo : List (Nat × mV)} {as rest : List mV} {σ σ1 τ : mS} {r : mX} {v : Option mV} (d : decode (mCo M) pc = .ok (.invokevirtual idx, 3)) (hV : mVi M' n) (hl : Cond.methodLink (mOw M) idx (mNm M') ∈ mW0) (hn : as.length = n) (h8 : mSt8 rest)
    (hj : j < 12) (hC : (mNm M').cls = "java/lang/String") (hf : mRf M' + 1 ≤ mRf M) (hlo : 19 + mNl M' + mRl M' ≤ mRl M) (hct : Ct G M' (vr (2 + j) :: as) σ (.inl v) σ1)
    (kk : Ev G M (pc + 3) lo (v.toList ++ rest) σ1 r τ) : Ev G M pc lo (as.reverse ++ vr (2 + j) :: rest) σ r τ := by
  refine ev_run hct.1 (fun h w hw => (ok_rev h).2 w (List.mem_cons_of_mem _ hw)) (fun p l e R s m args below meth c H locs cells slots ls hF hZ hsz hst hcl hsl => ?_) kk
  obtain ⟨k1, k2, k3, k4, k5, k6, k7, k8⟩ := hV
  have ha : 2 + j ≠ 0 := by omega
  have hcell : ∃ cell : Cell, H[mAD G (2 + j)]? = some cell ∧ cell.vm.isStatics = false ∧ s.vm.findClass (mNm M').cls = some cell.cls := by
    obtain ⟨h9, -⟩ := (st_gt hF).1 j hj
    obtain ⟨cell, q1, q2, q3, -⟩ := (va_O.moved hF.2.2.2.2.2.2.2.2.2.1 h9).kept (st_hq hZ)
    exact ⟨cell, by rw [ad_lt G (by omega) (by omega)]; exact q1, q2, by rw [hC]; exact q3⟩
  have hin := wd_in k5 k1
  have h1 := (ok_rev hst).1
  have hfr := hF.2.2.2.2.2.2.2.2.2.2.1
  have hlr := hF.2.2.2.2.2.2.2.2.2.2.2.1
  refine ⟨_, va_runV (As := as.map (tv G)) (C := (mNm M').cls) (b := mAD G (2 + j)) (y := mNm M') (bytes := mCo M') (maxL := mNl M') (nL := mNl M) (ret := mRt M') (index := idx) (n := n) ⟨hF.1, hF.2.1, hF.2.2.1, hF.2.2.2.1, hF.2.2.2.2.1⟩ (hct.met l) ?_ ⟨?_, hcell, ?_⟩ rfl ?_ hsz ?_ (st8 h8) d ⟨hcl, hsl⟩⟩
  · refine cwV (Ts := mW0) n hF.2.2.2.2.1 (w0_of fun w hw => ?_) (wd_nh k5) rfl rfl ⟨rfl, k6, k7, k8⟩ ⟨by show mRf M' + 1 ≤ R.frames; omega, by show 8 + (mNl M' + 11) + mRl M' ≤ R.locals; omega⟩
    unfold wsV at hw
    rcases List.mem_append.mp hw with h | h
    · simp only [List.mem_cons, List.not_mem_nil, or_false] at h
      rcases h with rfl | rfl | rfl | rfl
      · exact hl
      · exact k2
      · exact k3
      · exact k4
    · exact hin w h
  · exact mU_blind
  · intro U hU hW
    exact ⟨by rw [List.map_cons, tv_r G ha], mU_at hF hZ (fun w hw => (List.mem_cons.mp hw).elim (fun e => by rw [e]; trivial) (h1 w)) U hU hW⟩
  · rw [List.length_map]; exact hn
  · show (as.reverse ++ vr (2 + j) :: rest).map (tv G) = _
    rw [List.map_append, List.map_reverse, List.map_cons, tv_r G ha]
abbrev M_J0_length : mM := (yJ0_length_8abf5, RJ0, cJ0_length_8abf5, 1, some .int, [], 1, 40)
abbrev M_J0_coder : mM := (yJ0_coder_7d493, RJ0, cJ0_coder_7d493, 1, some .byte, [], 0, 0)
abbrev M_J0_isLatin1 : mM := (yJ0_isLatin1_aae02, RJ0, cJ0_isLatin1_aae02, 1, some .boolean, [], 0, 0)
abbrev M_J3_checkIndex : mM := (yJ3_checkIndex_8e157, RJ3, cJ3_checkIndex_8e157, 3, some .int, [], 0, 0)
abbrev M_J0_checkIndex : mM := (yJ0_checkIndex_df160, RJ0, cJ0_checkIndex_df160, 2, none, [], 1, 22)
abbrev M_J1_charAt : mM := (yJ1_charAt_3b067, RJ1, cJ1_charAt_3b067, 2, some .char, [], 2, 43)
abbrev M_J0_charAt : mM := (yJ0_charAt_5068e, RJ0, cJ0_charAt_5068e, 2, some .char, [], 3, 64)
theorem v_J0_length : mVi M_J0_length 0 := ⟨w0_in 820 (by decide +kernel) rfl, w0_in 818 (by decide +kernel) rfl, w0_in 819 (by decide +kernel) rfl, w0_in 143 (by decide +kernel) rfl, rfl, by decide +kernel, by decide +kernel, by decide +kernel⟩
theorem v_J0_coder : mVi M_J0_coder 0 := ⟨w0_in 824 (by decide +kernel) rfl, w0_in 822 (by decide +kernel) rfl, w0_in 823 (by decide +kernel) rfl, w0_in 143 (by decide +kernel) rfl, rfl, by decide +kernel, by decide +kernel, by decide +kernel⟩
theorem v_J0_isLatin1 : mVi M_J0_isLatin1 0 := ⟨w0_in 834 (by decide +kernel) rfl, w0_in 832 (by decide +kernel) rfl, w0_in 833 (by decide +kernel) rfl, w0_in 143 (by decide +kernel) rfl, rfl, by decide +kernel, by decide +kernel, by decide +kernel⟩
theorem v_J0_charAt : mVi M_J0_charAt 1 := ⟨w0_in 830 (by decide +kernel) rfl, w0_in 828 (by decide +kernel) rfl, w0_in 829 (by decide +kernel) rfl, w0_in 143 (by decide +kernel) rfl, rfl, by decide +kernel, by decide +kernel, by decide +kernel⟩
theorem v_J0_checkIndex : mVs M_J0_checkIndex 2 := ⟨w0_in 840 (by decide +kernel) rfl, w0_in 839 (by decide +kernel) rfl, w0_in 143 (by decide +kernel) rfl, rfl, by decide +kernel, by decide +kernel, by decide +kernel⟩
theorem v_J1_charAt : mVs M_J1_charAt 2 := ⟨w0_in 837 (by decide +kernel) rfl, w0_in 836 (by decide +kernel) rfl, w0_in 144 (by decide +kernel) rfl, rfl, by decide +kernel, by decide +kernel, by decide +kernel⟩
theorem v_J3_checkIndex : mVs M_J3_checkIndex 3 := ⟨w0_in 845 (by decide +kernel) rfl, w0_in 844 (by decide +kernel) rfl, w0_in 145 (by decide +kernel) rfl, rfl, by decide +kernel, by decide +kernel, by decide +kernel⟩
section STM
variable {G : mG} {M : mM} {pc idx : Nat} {lo : List (Nat × mV)} {st : List mV} {σ τ : mS} {r : mX}
theorem ct_J0_coder {j : Nat} (hj : j < 12) : Ct G M_J0_coder [vr (2 + j)] σ (.inl (some (vi 0))) σ := by
  refine ct_of rfl (by decide +kernel) rfl (Nat.le_of_ble_eq_true rfl) rfl ?_
  refine ev_gsC dJ0_coder_7d493_0 (w0_in 825 (by decide +kernel) rfl) ?_
  refine ev_if_eq_f 13 dJ0_coder_7d493_3 (by decide) (by decide) ?_
  refine ev_aload_n dJ0_coder_7d493_6 0 rfl rfl ?_
  refine ev_gfC hj dJ0_coder_7d493_7 (w0_in 1888 (by decide +kernel) rfl) ?_
  refine ev_goto (tgt := 14) dJ0_coder_7d493_10 (by decide) ?_
  exact ev_ret (some (vi 0)) dJ0_coder_7d493_14 ⟨by decide, by decide⟩
theorem ct_J0_isLatin1 {j : Nat} (hj : j < 12) : Ct G M_J0_isLatin1 [vr (2 + j)] σ (.inl (some (vi 1))) σ := by
  refine ct_of rfl (by decide +kernel) rfl (Nat.le_of_ble_eq_true rfl) rfl ?_
  refine ev_gsC dJ0_isLatin1_aae02_0 (w0_in 825 (by decide +kernel) rfl) ?_
  refine ev_if_eq_f 17 dJ0_isLatin1_aae02_3 (by decide) (by decide) ?_
  refine ev_aload_n dJ0_isLatin1_aae02_6 0 rfl rfl ?_
  refine ev_gfC hj dJ0_isLatin1_aae02_7 (w0_in 1888 (by decide +kernel) rfl) ?_
  refine ev_if_ne_f 17 dJ0_isLatin1_aae02_10 (by decide) (by decide) ?_
  refine ev_iconst dJ0_isLatin1_aae02_13 (mi_c rfl) ?_
  refine ev_goto (tgt := 18) dJ0_isLatin1_aae02_14 (by decide) ?_
  exact ev_ret (some (vi 1)) dJ0_isLatin1_aae02_18 (Or.inr rfl)
theorem ct_J3_checkIndex {i n : Int} {a : Nat} (h0 : 0 ≤ i) (hn : i < n) : Ct G M_J3_checkIndex [vi i, vi n, vr a] σ (.inl (some (vi i))) σ := by
  refine ct_of rfl (by decide +kernel) rfl (Nat.le_of_ble_eq_true rfl) rfl ?_
  refine ev_iload_n dJ3_checkIndex_8e157_0 0 rfl rfl ?_
  refine ev_if_lt_f 9 dJ3_checkIndex_8e157_1 (by decide) (by omega) ?_
  refine ev_iload_n dJ3_checkIndex_8e157_4 0 rfl rfl ?_
  refine ev_iload_n dJ3_checkIndex_8e157_5 1 rfl rfl ?_
  refine ev_icmp_lt_t (tgt := 16) dJ3_checkIndex_8e157_6 (by decide) hn ?_
  refine ev_iload_n dJ3_checkIndex_8e157_16 0 rfl rfl ?_
  exact ev_ret (some (vi i)) dJ3_checkIndex_8e157_17 True.intro
theorem ct_J0_checkIndex {i n : Int} (h0 : 0 ≤ i) (hn : i < n) : Ct G M_J0_checkIndex [vi i, vi n] σ (.inl none) σ := by
  refine ct_of rfl (by decide +kernel) rfl (Nat.le_of_ble_eq_true rfl) rfl ?_
  refine ev_iload_n dJ0_checkIndex_df160_0 0 rfl rfl ?_
  refine ev_iload_n dJ0_checkIndex_df160_1 1 rfl rfl ?_
  refine ev_gsF dJ0_checkIndex_df160_2 (w0_in 841 (by decide +kernel) rfl) (fun f => ?_)
  refine ew_callSv (as := [vi i, vi n, vr f]) (rest := []) dJ0_checkIndex_df160_5 v_J3_checkIndex (w0_in 843 (by decide +kernel) rfl) rfl (Nat.le_of_ble_eq_true rfl) (Nat.le_of_ble_eq_true rfl) (Nat.le_of_ble_eq_true rfl) (ct_J3_checkIndex h0 hn) ?_
  refine ev_pop dJ0_checkIndex_df160_8 rfl ?_
  exact ev_ret none dJ0_checkIndex_df160_9 True.intro
theorem str_b : ∀ j, j < 12 → ∀ i, i < (mStr.getD j []).length → mi2c (mand ((mStr.getD j []).getD i 0) 255) = (mStr.getD j []).getD i 0 := by decide +kernel
theorem str_l : ∀ j, j < 12 → mshr ((mStr.getD j []).length : Nat) 0 = ((mStr.getD j []).length : Nat) := by decide +kernel
theorem ct_J1_charAt {j : Nat} (hj : j < 12) {i : Int} (h0 : 0 ≤ i) (hn : i < ((mStr.getD j []).length : Nat)) : Ct G M_J1_charAt [vr (14 + j), vi i] σ (.inl (some (vi ((mStr.getD j []).getD i.toNat 0)))) σ := by
  refine ct_of rfl (by decide +kernel) rfl (Nat.le_of_ble_eq_true rfl) rfl ?_
  refine ev_iload_n dJ1_charAt_3b067_0 1 rfl rfl ?_
  refine ev_aload_n dJ1_charAt_3b067_1 0 rfl rfl ?_
  refine ev_alnS hj dJ1_charAt_3b067_2 ?_
  refine ew_callS0 (as := [vi i, vi ((mStr.getD j []).length : Nat)]) (rest := []) dJ1_charAt_3b067_3 v_J0_checkIndex (w0_in 838 (by decide +kernel) rfl) rfl (Nat.le_of_ble_eq_true rfl) (Nat.le_of_ble_eq_true rfl) (Nat.le_of_ble_eq_true rfl) (ct_J0_checkIndex h0 hn) ?_
  refine ev_aload_n dJ1_charAt_3b067_6 0 rfl rfl ?_
  refine ev_iload_n dJ1_charAt_3b067_7 1 rfl rfl ?_
  refine ev_baldS hj h0 hn dJ1_charAt_3b067_8 ?_
  refine ev_sp dJ1_charAt_3b067_9 rfl ?_
  refine ev_iand dJ1_charAt_3b067_12 ?_
  refine ev_i2c dJ1_charAt_3b067_13 ?_
  rw [str_b j hj i.toNat (by omega)]
  have h9 := str_in j hj i.toNat (by omega)
  exact ev_ret (some (vi _)) dJ1_charAt_3b067_14 ⟨h9.1, by omega⟩
theorem ct_J0_charAt {j : Nat} (hj : j < 12) {i : Int} (h0 : 0 ≤ i) (hn : i < ((mStr.getD j []).length : Nat)) : Ct G M_J0_charAt [vr (2 + j), vi i] σ (.inl (some (vi ((mStr.getD j []).getD i.toNat 0)))) σ := by
  refine ct_of rfl (by decide +kernel) rfl (Nat.le_of_ble_eq_true rfl) rfl ?_
  refine ev_aload_n dJ0_charAt_5068e_0 0 rfl rfl ?_
  refine ev_callVT (v := some (vi 1)) (as := []) (rest := []) dJ0_charAt_5068e_1 v_J0_isLatin1 (w0_in 831 (by decide +kernel) rfl) rfl (Nat.le_of_ble_eq_true rfl) hj rfl (Nat.le_of_ble_eq_true rfl) (Nat.le_of_ble_eq_true rfl) (ct_J0_isLatin1 hj) ?_
  refine ev_if_eq_f 16 dJ0_charAt_5068e_4 (by decide) (by decide) ?_
  refine ev_aload_n dJ0_charAt_5068e_7 0 rfl rfl ?_
  refine ev_gfV hj dJ0_charAt_5068e_8 (w0_in 1887 (by decide +kernel) rfl) ?_
  refine ev_iload_n dJ0_charAt_5068e_11 1 rfl rfl ?_
  refine ew_callSv (as := [vr (14 + j), vi i]) (rest := []) dJ0_charAt_5068e_12 v_J1_charAt (w0_in 835 (by decide +kernel) rfl) rfl (Nat.le_of_ble_eq_true rfl) (Nat.le_of_ble_eq_true rfl) (Nat.le_of_ble_eq_true rfl) (ct_J1_charAt hj h0 hn) ?_
  have h9 := str_in j hj i.toNat (by omega)
  exact ev_ret (some (vi _)) dJ0_charAt_5068e_15 ⟨h9.1, by omega⟩
theorem ct_J0_length {j : Nat} (hj : j < 12) : Ct G M_J0_length [vr (2 + j)] σ (.inl (some (vi ((mStr.getD j []).length : Nat)))) σ := by
  refine ct_of rfl (by decide +kernel) rfl (Nat.le_of_ble_eq_true rfl) rfl ?_
  refine ev_aload_n dJ0_length_8abf5_0 0 rfl rfl ?_
  refine ev_gfV hj dJ0_length_8abf5_1 (w0_in 1887 (by decide +kernel) rfl) ?_
  refine ev_alnS hj dJ0_length_8abf5_4 ?_
  refine ev_aload_n dJ0_length_8abf5_5 0 rfl rfl ?_
  refine ev_callVT (v := some (vi 0)) (as := []) (rest := [vi ((mStr.getD j []).length : Nat)]) dJ0_length_8abf5_6 v_J0_coder (w0_in 821 (by decide +kernel) rfl) rfl (Nat.le_of_ble_eq_true rfl) hj rfl (Nat.le_of_ble_eq_true rfl) (Nat.le_of_ble_eq_true rfl) (ct_J0_coder hj) ?_
  refine ev_ishr dJ0_length_8abf5_9 ?_
  rw [str_l j hj]
  exact ev_ret (some (vi _)) dJ0_length_8abf5_10 True.intro
theorem ew_slen {a : Nat} {v : Int} (d : decode (mCo M) pc = .ok (.invokevirtual idx, 3)) (hl : Cond.methodLink (mOw M) idx yJ0_length_8abf5 ∈ mW0) (g : sLn a = some v) (h8 : mSt8 st) (hf : 2 ≤ mRf M) (hlo : 60 ≤ mRl M) (kk : Ev G M (pc + 3) lo (vi v :: st) σ r τ) : Ev G M pc lo (vr a :: st) σ r τ := by
  unfold sLn at g
  split at g
  · rename_i h
    cases g
    obtain ⟨j, rfl⟩ : ∃ j, a = 2 + j := ⟨a - 2, by omega⟩
    rw [show 2 + j - 2 = j by omega] at kk
    exact ev_callVT (v := some (vi ((mStr.getD j []).length : Nat))) (as := []) (rest := st) d v_J0_length hl rfl h8 (by omega) rfl hf hlo (ct_J0_length (by omega)) kk
  · cases g
theorem ew_schar {a : Nat} {i v : Int} (d : decode (mCo M) pc = .ok (.invokevirtual idx, 3)) (hl : Cond.methodLink (mOw M) idx yJ0_charAt_5068e ∈ mW0) (g : sCh a i = some v) (h8 : mSt8 st) (hf : 4 ≤ mRf M) (hlo : 85 ≤ mRl M) (kk : Ev G M (pc + 3) lo (vi v :: st) σ r τ) : Ev G M pc lo (vi i :: vr a :: st) σ r τ := by
  unfold sCh at g
  split at g
  · rename_i h
    cases g
    obtain ⟨j, rfl⟩ : ∃ j, a = 2 + j := ⟨a - 2, by omega⟩
    rw [show 2 + j - 2 = j by omega] at kk h
    exact ev_callVT (v := some (vi ((mStr.getD j []).getD i.toNat 0))) (as := [vi i]) (rest := st) d v_J0_charAt hl rfl h8 (by omega) rfl hf hlo (ct_J0_charAt (by omega) h.2.2.1 h.2.2.2) kk
  · cases g
end STM
