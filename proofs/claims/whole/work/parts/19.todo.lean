/-! rows still open: rows of rows, texts -/
def mMul (σ : mS) (tg ug n k : Nat) : mS := ((σ.1.1 + 1 + n, σ.1.2.1 + n + n * k, σ.1.2.2.1 + 1 + n, σ.1.2.2.2),
  (fun b => if b = 16 + σ.1.2.2.1 then (tg, n) else if 16 + σ.1.2.2.1 < b ∧ b ≤ 16 + σ.1.2.2.1 + n then (ug, k) else σ.2.1 b),
  (fun b j => if 16 + σ.1.2.2.1 ≤ b ∧ b ≤ 16 + σ.1.2.2.1 + n then 0 else σ.2.2.1 b j), (fun b j => if 16 + σ.1.2.2.1 ≤ b ∧ b ≤ 16 + σ.1.2.2.1 + n then 0 else σ.2.2.2.1 b j),
  (fun b j => if b = 16 + σ.1.2.2.1 then (if j < n then 16 + σ.1.2.2.1 + 1 + j else 0) else if 16 + σ.1.2.2.1 < b ∧ b ≤ 16 + σ.1.2.2.1 + n then 0 else σ.2.2.2.2 b j))
def nwM (σ : mS) (t u : Nat) (n k : Int) : Option mS := if mF σ = 0 ∧ 0 ≤ n ∧ 0 ≤ k ∧ n ≤ 10000 ∧ k ≤ 10000 then some (mMul σ (51 + t) (51 + u) n.toNat k.toNat) else none
theorem mul_outer (G : mG) (c : ClassId) (n h0 r0 : Nat) (hr0 : 16 ≤ r0) (hh : mAD G r0 = h0) : ∀ i : Nat, Jvm.Free.Multi.outerC c n h0 i = arrV c n (fun j => tv G (vr (if j < i then r0 + 1 + j else 0)))
  | 0 => by
    show ({ cls := c, slots := Array.replicate n .null, vm := .none } : Cell) = _
    rw [arrV_new]
    refine congrArg (arrV c n) (funext fun j => ?_)
    simp [tv]
  | i + 1 => by
    show (Jvm.Free.Multi.outerC c n h0 i).setSlot i (.ref (h0 + 1 + i)) = _
    rw [mul_outer G c n h0 r0 hr0 hh i, arrV_store]
    refine congrArg (arrV c n) (funext fun j => ?_)
    show updV (fun j => tv G (vr (if j < i then r0 + 1 + j else 0))) i (.ref (h0 + 1 + i)) j = tv G (vr (if j < i + 1 then r0 + 1 + j else 0))
    unfold updV
    by_cases e : j = i
    · rw [if_pos e, e, if_pos (Nat.lt_succ_self i), tv_r G (by omega)]
      have h2 := ad_ge G (r := r0 + 1 + i) (by omega)
      have h3 := ad_ge G hr0
      rw [hh] at h3
      have h4 : mAD G (r0 + 1 + i) = h0 + 1 + i := by omega
      rw [h4]
    · rw [if_neg e]
      show tv G (vr (if j < i then r0 + 1 + j else 0)) = _
      by_cases h : j < i
      · rw [if_pos h, if_pos (by omega)]
      · rw [if_neg h, if_neg (by omega)]
theorem tv_mul (G : mG) (ty : FieldType) (σ : mS) (tg ug n k r j : Nat) (h : r < 16 + mN σ ∨ 16 + mN σ + n < r) : mTv G ty (mMul σ tg ug n k) r j = mTv G ty σ r j := by
  have h1 : ¬ (16 + σ.1.2.2.1 ≤ r ∧ r ≤ 16 + σ.1.2.2.1 + n) := by show ¬ (16 + mN σ ≤ r ∧ r ≤ 16 + mN σ + n); omega
  have h2 : ¬ r = 16 + σ.1.2.2.1 := by show ¬ r = 16 + mN σ; omega
  have h3 : ¬ (16 + σ.1.2.2.1 < r ∧ r ≤ 16 + σ.1.2.2.1 + n) := by show ¬ (16 + mN σ < r ∧ r ≤ 16 + mN σ + n); omega
  cases ty <;> first | exact congrArg (fun z => Value.int (Int32.ofInt z)) (if_neg h1) | exact congrArg (fun z => Value.long (Int64.ofBitVec z)) (if_neg h1) | exact congrArg (fun z => tv G (vr z)) ((if_neg h2).trans (if_neg h3))
theorem tv_mulI (G : mG) (ty : FieldType) (σ : mS) (tg ug n k r j : Nat) (h1 : 16 + mN σ < r) (h2 : r ≤ 16 + mN σ + n) : mTv G ty (mMul σ tg ug n k) r j = mDv ty := by
  have e1 : 16 + σ.1.2.2.1 ≤ r ∧ r ≤ 16 + σ.1.2.2.1 + n := by show 16 + mN σ ≤ r ∧ r ≤ 16 + mN σ + n; omega
  have e2 : ¬ r = 16 + σ.1.2.2.1 := by show ¬ r = 16 + mN σ; omega
  have e3 : 16 + σ.1.2.2.1 < r ∧ r ≤ 16 + σ.1.2.2.1 + n := ⟨h1, h2⟩
  cases ty <;> first | exact congrArg (fun z => Value.int (Int32.ofInt z)) (if_pos e1) | exact congrArg (fun z => Value.long (Int64.ofBitVec z)) (if_pos e1) | exact congrArg (fun z => tv G (vr z)) ((if_neg e2).trans (if_pos e3))
theorem rz_mul {G : mG} {σ : mS} {H H' : Heap} {t u n k : Nat} {ty : FieldType} (hZ : mRZ G σ H) (h0 : mF σ = 0) (ht : mAT[t]? = some (.array ty)) (hu : mAT[u]? = some ty) (hsz : H'.size = H.size + 1 + n) (ho : ∀ q : Nat, q < H.size → H'[q]? = H[q]?)
    (ho1 : H'[H.size]? = some (arrV (G.2.2.2.2.1 t) n (fun j => tv G (vr (if j < n then 16 + mN σ + 1 + j else 0))))) (hi1 : ∀ j, j < n → H'[H.size + 1 + j]? = some (arrV (G.2.2.2.2.1 u) k (fun _ => mDv ty))) : mRZ G (mMul σ (51 + t) (51 + u) n k) H' := by
  obtain ⟨g1, g2, g3, g4, g5, g6, scr, g7, g8, g9, g10, g11⟩ := hZ
  have hH := g1.2 h0
  have hn : mN (mMul σ (51 + t) (51 + u) n k) = mN σ + 1 + n := rfl
  have hne : ∀ r, (r < 16 + mN σ ∨ 16 + mN σ + n < r) → mH (mMul σ (51 + t) (51 + u) n k) r = mH σ r := fun r h => (if_neg (by show ¬ r = 16 + mN σ; omega)).trans (if_neg (by show ¬ (16 + mN σ < r ∧ r ≤ 16 + mN σ + n); omega))
  refine ⟨⟨by rw [hn]; omega, fun _ => by rw [hn]; omega⟩, fun q hq => ?_, fun r j => ?_, fun r t9 h16 ht9 => ?_, fun r hr hr1 => ?_, ?_⟩
  · rw [ho q (by omega)]
    exact g2 q hq
  · show mIn (if 16 + σ.1.2.2.1 ≤ r ∧ r ≤ 16 + σ.1.2.2.1 + n then 0 else σ.2.2.1 r j)
    split
    · exact mIn0
    · exact g3 r j
  · by_cases hr : r = 16 + mN σ
    · subst hr
      have hsh : mH (mMul σ (51 + t) (51 + u) n k) (16 + mN σ) = (51 + t, n) := if_pos rfl
      rw [hsh] at ht9
      have ht9' : 51 + t = t9 + 1 := ht9
      refine ⟨by rw [hn]; omega, fun h50 => by omega, fun t' e => ?_⟩
      have : t' = t := by omega
      subst this
      intro ty2 hty2
      cases ht.symm.trans hty2
      rw [hsh, ad_ge G (by omega), show G.1.heap.size + (16 + mN σ - 16) = H.size by omega, ho1]
      exact congrArg (fun f => some (arrV _ _ f)) (funext fun j => congrArg (fun z => tv G (vr z)) (if_pos rfl).symm)
    · by_cases hin : 16 + mN σ < r ∧ r ≤ 16 + mN σ + n
      · have hsh : mH (mMul σ (51 + t) (51 + u) n k) r = (51 + u, k) := (if_neg hr).trans (if_pos hin)
        rw [hsh] at ht9
        have ht9' : 51 + u = t9 + 1 := ht9
        refine ⟨by rw [hn]; omega, fun h50 => by omega, fun t' e => ?_⟩
        have : t' = u := by omega
        subst this
        intro ty2 hty2
        cases hu.symm.trans hty2
        rw [hsh, ad_ge G (by omega), show G.1.heap.size + (r - 16) = H.size + 1 + (r - 16 - mN σ - 1) by omega, hi1 _ (by omega)]
        exact congrArg (fun f => some (arrV _ _ f)) (funext fun j => (tv_mulI G ty σ _ _ n k r j hin.1 hin.2).symm)
      · have hout : r < 16 + mN σ ∨ 16 + mN σ + n < r := by omega
        rw [hne r hout] at ht9
        obtain ⟨k1, k2, k3⟩ := g4 r t9 h16 ht9
        have hq := ho (mAD G r) (by rw [ad_ge G h16]; omega)
        refine ⟨by rw [hn]; omega, fun h50 q hq2 => ?_, fun t' e ty hty => ?_⟩
        · obtain ⟨m1, m2⟩ := k2 h50 q hq2
          exact ⟨by rw [hne r hout]; exact m1, (m2.kept hq).to fun j _ => (tv_mul G _ σ _ _ n k r j hout).symm⟩
        · rw [hq, k3 t' e ty hty, hne r hout]
          exact congrArg (fun f => some (arrV _ _ f)) (funext fun i => (tv_mul G ty σ _ _ n k r i hout).symm)
  · rw [hne r (by omega)]
    exact g5 r hr hr1
  · rw [hne 1 (by omega)]
    refine ⟨g6, scr, g7, g8, g9, g10, fun i hi => ?_⟩
    rw [show mI (mMul σ (51 + t) (51 + u) n k) 1 i = mI σ 1 i from if_neg (by show ¬ (16 + mN σ ≤ 1 ∧ _); omega)]
    exact g11 i hi
theorem ew_mnew {G : mG} {M : mM} {pc idx : Nat} {lo : List (Nat × mV)} {st : List mV} {σ σ' τ : mS} {r : mX} (t u : Nat) {ty : FieldType} {n k : Int} (d : decode (mCo M) pc = .ok (.multianewarray idx 2, 4)) (ht : mAT[t]? = some (.array ty)) (hu : mAT[u]? = some ty) (hl : Cond.classLink (mOw M) idx ("[" ++ (FieldType.array ty).toString) ∈ mW0) (hov : Cond.arrayOver (.array ty) ∈ lw_tbl) (hw : Cond.arrayClass ty ∈ mW0)
    (g : nwM σ t u n k = some σ') (kk : Ev G M (pc + 4) lo (vr (16 + mN σ) :: st) σ' r τ) : Ev G M pc lo (vi k :: vi n :: st) σ r τ := by
  unfold nwM at g
  split at g
  case isFalse => cases g
  case isTrue c9 =>
  obtain ⟨h0, hn0, hk0, hn1, hk1⟩ := c9
  cases g
  have hdv : defaultValue ty = mDv ty ∧ fits ty (defaultValue ty) = true ∧ (defaultValue ty).isDefault = true ∧ componentBytes ty ≤ 8 := by
    have hul : u < 11 := (List.getElem?_eq_some_iff.mp hu).1
    have : u = 0 ∨ u = 1 ∨ u = 2 ∨ u = 3 ∨ u = 4 ∨ u = 5 ∨ u = 6 ∨ u = 7 ∨ u = 8 ∨ u = 9 ∨ u = 10 := by omega
    rcases this with rfl | rfl | rfl | rfl | rfl | rfl | rfl | rfl | rfl | rfl | rfl <;> (cases hu; exact ⟨by decide +kernel, by decide +kernel, by decide +kernel, by decide +kernel⟩)
  refine Ev.make (σ' := mMul σ (51 + t) (51 + u) n.toNat k.toNat) (1 + n.toNat) (n.toNat + n.toNat * k.toNat) (Nat.add_assoc _ _ _) (Nat.add_assoc _ _ _) (fun h => ok_c ok_r (ok_t (ok_t h))) (fun p l e R s m args below meth c H locs cells slots Q ls hF hZ hst hsz hcl hsl kw => ?_) kk
  have hts := hF.2.2.2.2.1
  have hnk := hF.2.2.2.2.2.2.2.2.2.2.2.2.2.2.2.1
  have hki : mIn k := ok_h hst
  have hni : mIn n := ok_h (ok_t hst)
  have ecn : (Int32.ofInt n).toNatClampNeg = n.toNat := oi_cl hni
  have eck : (Int32.ofInt k).toNatClampNeg = k.toNat := oi_cl hki
  have hb : k.toNat * componentBytes ty ≤ k.toNat * 8 := Nat.mul_le_mul_left _ hdv.2.2.2
  intro T hT X
  obtain ⟨vm₁, cA, comp, -, fA, fC, -, -, X', step⟩ := X.multianewarray2F hF.1 hF.2.2.2.1 (hts _ hl) (nk_at hnk hts hov rfl) (hts _ hw) (g := F0 m pc ls (.int (Int32.ofInt k) :: .int (Int32.ofInt n) :: st.map (tv G))) rfl (by rw [hF.2.1]; exact d) rfl (fun h => absurd ((oi_lt hni mIn0).1 h) (by omega)) (fun h => absurd ((oi_lt hki mIn0).1 h) (by omega)) (by rw [ecn]; omega) (by rw [eck]; omega) (by rw [eck]; omega) hdv.2.1 hdv.2.2.1 (by rw [ecn]; exact hcl) (by rw [ecn, eck]; exact hsl)
  rw [ecn, eck, hdv.1] at X' step
  obtain ⟨kA1, comp1, a1, a2, a3, -⟩ := gf_arr hF ht
  obtain ⟨kA2, comp2, b1, b2, b3, -⟩ := gf_arr hF hu
  have hcA : G.2.2.2.2.1 t = cA := Option.some.inj (a3.symm.trans fA)
  have hcC : G.2.2.2.2.1 u = comp := Option.some.inj (b3.symm.trans fC)
  have hH := hZ.1.2 h0
  have hAD : mAD G (16 + mN σ) = H.size := by rw [ad_ge G (by omega)]; omega
  have hTh : (T.setVm vm₁).heap = H := hT
  obtain ⟨f1, f2, -, -⟩ := Jvm.Free.Multi.fill_facts (T.setVm vm₁) cA comp n.toNat k.toNat (mDv ty) n.toNat
  have f3 := fun x hx => Jvm.Free.Multi.fill_old (T.setVm vm₁) cA comp n.toNat k.toNat (mDv ty) (a := x) hx n.toNat
  have f4 := Jvm.Free.Multi.fill_inner (T.setVm vm₁) cA comp n.toNat k.toNat (mDv ty) n.toNat
  generalize Jvm.Free.Multi.fill (T.setVm vm₁) cA comp n.toNat k.toNat (mDv ty) n.toNat = F at X' step f1 f2 f3 f4
  rw [hTh] at f1 f2 f3 f4
  rw [mul_outer G cA n.toNat H.size (16 + mN σ) (by omega) hAD n.toNat] at f2
  have hZ' : mRZ G (mMul σ (51 + t) (51 + u) n.toNat k.toNat) F.heap := by
    refine rz_mul hZ h0 ht hu f1 f3 (by rw [hcA]; exact f2) (fun j hj => ?_)
    rw [f4 j hj, hcC, ← arrV_new]
    rfl
  have hw9 := kw F.heap hZ' (by omega)
  rw [List.map_cons, tv_r G (by omega), hAD] at hw9
  have ec : cells + (1 + n.toNat) = cells + 1 + n.toNat := (Nat.add_assoc _ _ _).symm
  have ez : slots + (n.toNat + n.toNat * k.toNat) = slots + n.toNat + n.toNat * k.toNat := (Nat.add_assoc _ _ _).symm
  rw [ec, ez] at hw9
  obtain ⟨t2, c1, c2⟩ := hw9 F rfl X'
  refine ⟨t2, step t2 ?_, c2⟩
  rw [show T.heap.size = H.size by rw [hT]]
  exact c1
/-- the texts, by their places from 2 on -/
def mStr : List (List Int) := [[98, 101, 102, 111, 114, 101], [115, 97, 109, 101], [97, 102, 116, 101, 114], [117, 110, 116, 105, 108], [111, 114, 100, 101, 114], [108, 97, 115, 116, 115], [99, 117, 114, 118, 101], [115, 97, 109, 112, 108, 101], [114, 105, 110, 103, 115], [112, 104, 97, 115, 101], [115, 105, 103, 109, 97], [114, 101, 115, 101, 114, 118, 101]]
def sLn (a : Nat) : Option Int := if 2 ≤ a ∧ a < 14 then some ((mStr.getD (a - 2) []).length : Nat) else none
def sCh (a : Nat) (i : Int) : Option Int := if 2 ≤ a ∧ a < 14 ∧ 0 ≤ i ∧ i < ((mStr.getD (a - 2) []).length : Nat) then some ((mStr.getD (a - 2) []).getD i.toNat 0) else none
def mStrT : List String := ["before", "same", "after", "until", "order", "lasts", "curve", "sample", "rings", "phase", "sigma", "reserve"]
theorem ew_lds {G : mG} {M : mM} {pc idx : Nat} {lo : List (Nat × mV)} {st : List mV} {σ τ : mS} {r : mX} (j : Nat) {text : String} (d : decode (mCo M) pc = .ok (.ldc idx, 2)) (hj : mStrT[j]? = some text) (hw : Cond.stringRef (mOw M) idx text ∈ lw_tbl) (kk : Ev G M (pc + 2) lo (vr (2 + j) :: st) σ r τ) : Ev G M pc lo st σ r τ := by
  sorry
theorem ew_ldsw {G : mG} {M : mM} {pc idx : Nat} {lo : List (Nat × mV)} {st : List mV} {σ τ : mS} {r : mX} (j : Nat) {text : String} (d : decode (mCo M) pc = .ok (.ldc_w idx, 3)) (hj : mStrT[j]? = some text) (hw : Cond.stringRef (mOw M) idx text ∈ lw_tbl) (kk : Ev G M (pc + 3) lo (vr (2 + j) :: st) σ r τ) : Ev G M pc lo st σ r τ := by
  sorry
theorem ew_slen {G : mG} {M : mM} {pc idx a : Nat} {lo : List (Nat × mV)} {st : List mV} {σ τ : mS} {r : mX} {v : Int} (d : decode (mCo M) pc = .ok (.invokevirtual idx, 3)) (hl : Cond.methodLink (mOw M) idx yJ0_length_8abf5 ∈ mW0) (g : sLn a = some v) (kk : Ev G M (pc + 3) lo (vi v :: st) σ r τ) : Ev G M pc lo (vr a :: st) σ r τ := by
  sorry
theorem ew_schar {G : mG} {M : mM} {pc idx a : Nat} {lo : List (Nat × mV)} {st : List mV} {σ τ : mS} {r : mX} {i v : Int} (d : decode (mCo M) pc = .ok (.invokevirtual idx, 3)) (hl : Cond.methodLink (mOw M) idx yJ0_charAt_5068e ∈ mW0) (g : sCh a i = some v) (kk : Ev G M (pc + 3) lo (vi v :: st) σ r τ) : Ev G M pc lo (vi i :: vr a :: st) σ r τ := by
  sorry
