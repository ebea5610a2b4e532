/-! THE PURE PART: the desk tries -/
theorem nx_1000 (q : Nat → Bool) : nx q 1000 = 1000 := rfl
section TK
variable {g : Bool} {n : Nat} {c : Nat × Nat × Nat × Nat} {I : Nat → Nat → Int} {W : Nat → Nat → BitVec 64} {p : Nat → Nat} {T : Td}
theorem x6_fit2 {m s : Nat} {M : MM} {Y : Nat → Int} (hs : s < m) (hm : m ≤ 12) (hM : MatC m M I) (hI : ∀ j, j ≤ s → I 255 j = Y j) (hY : ∀ j, j ≤ s → 0 ≤ Y j ∧ Y j ≤ 999) : ∀ (d h f : Nat), h + d = s → d < f → (∀ k, k < h → M.1 s k ≤ Y s - Y k ∧ Y s - Y k ≤ M.2 s k) →
    (D_X6_fitsThoseAhead_2 f 254 (s : Int) (h : Nat) (st g n c I W p) = some (Sum.inl ()) ∧ ∀ k, k < s → M.1 s k ≤ Y s - Y k ∧ Y s - Y k ≤ M.2 s k) ∨ (D_X6_fitsThoseAhead_2 f 254 (s : Int) (h : Nat) (st g n c I W p) = some (Sum.inr 0) ∧ ¬ ∀ k, k < s → M.1 s k ≤ Y s - Y k ∧ Y s - Y k ≤ M.2 s k) := by
  intro d
  induction d with
  | zero =>
    intro h f hh hf h0
    obtain ⟨f, rfl⟩ : ∃ g, f = g + 1 := ⟨f - 1, by omega⟩
    have e : h = s := by omega
    subst e
    exact Or.inl ⟨if_pos (by omega), h0⟩
  | succ d ih =>
    intro h f hh hf h0
    obtain ⟨f, rfl⟩ : ∃ g, f = g + 1 := ⟨f - 1, by omega⟩
    obtain ⟨m1, m2⟩ := hM s hs h (by omega)
    have y1 := hY s (Nat.le_refl _)
    have y2 := hY h (by omega)
    have pre : ∀ {R : Option (Unit ⊕ Int)}, (if Y s - Y h < M.1 s h then D_X6_fitsThoseAhead_45 (D_X6_fitsThoseAhead_2 f) (st g n c I W p) else if Y s - Y h ≤ M.2 s h then D_X6_fitsThoseAhead_2 f 254 (s : Int) ((h + 1 : Nat) : Int) (st g n c I W p) else D_X6_fitsThoseAhead_45 (D_X6_fitsThoseAhead_2 f) (st g n c I W p)) = R → D_X6_fitsThoseAhead_2 (f + 1) 254 (s : Int) (h : Nat) (st g n c I W p) = R := by
      intro R hR
      show (if (s : Int) ≤ (h : Nat) then _ else _) = _
      rw [if_neg (by omega)]
      refine bdk t6R0 (bdk (t6L (by omega) (by omega)) (bdk t6R0 (bdk (t6L (by omega) (by omega)) (bdk t6R6 (bdk (t6A6 (by omega) (by omega)) ?_)))))
      rw [toN, toN, hI s (Nat.le_refl _), hI h (by omega)]
      refine bdk (t6L6 (by omega) (by omega) (by omega)) ?_
      rw [toN, m1, mw_of (by omega) (by omega)]
      by_cases q : Y s - Y h < M.1 s h
      · rw [if_pos q]
        rw [if_pos q] at hR
        exact hR
      · rw [if_neg q]
        rw [if_neg q] at hR
        refine bdk t6R7 (bdk (t6A7 (by omega) (by omega)) ?_)
        rw [toN]
        refine bdk (t6L7 (by omega) (by omega) (by omega)) ?_
        rw [toN, m2, mw_n (by omega)]
        exact hR
    by_cases q : M.1 s h ≤ Y s - Y h ∧ Y s - Y h ≤ M.2 s h
    · have i1 := ih (h + 1) f (by omega) (by omega) (fun k hk => by
        by_cases e : k = h
        · subst e; exact q
        · exact h0 k (by omega))
      rcases i1 with ⟨i1, i2⟩ | ⟨i1, i2⟩
      · exact Or.inl ⟨pre (by rw [if_neg (by omega), if_pos q.2]; exact i1), i2⟩
      · exact Or.inr ⟨pre (by rw [if_neg (by omega), if_pos q.2]; exact i1), i2⟩
    · refine Or.inr ⟨pre ?_, fun w => q (w h (by omega))⟩
      by_cases q1 : Y s - Y h < M.1 s h
      · rw [if_pos q1]; rfl
      · rw [if_neg q1, if_neg (by omega)]; rfl
theorem x6_fits {m s y : Nat} {Y : Nat → Int} (hw : WF T) (hs : s < m) (hm : m ≤ 12) (hM : MatC m (bdA T) I) (hI : ∀ j, j ≤ s → I 255 j = Y j) (hY : ∀ j, j ≤ s → 0 ≤ Y j ∧ Y j ≤ 999) (hy : y < 1000) (hS : left T (-1) (FS T) s y = true) :
    D_X6_fitsThoseAhead 254 (s : Int) (st g n c I W p) = some (if fitA T Y s = true then 1 else 0) := by
  have b := fit_bnd (F := FS T) hw hy hS hY
  rcases x6_fit2 (g := g) (n := n) (c := c) (W := W) (p := p) hs hm hM hI hY s 0 mFU (by omega) (by unfold mFU; omega) (fun k hk => by omega) with ⟨e, h⟩ | ⟨e, h⟩
  · rw [if_pos (b.1 h)]
    exact bdk e rfl
  · rw [if_neg (fun w => h (b.2 w))]
    exact bdk e rfl
def PTl (x k : Nat) : Prop := x = 255 ∨ (x = 254 ∧ k = 3)
theorem PTl_T : ∀ a k, PTl a k → a < 34 ∨ 34 + 74 ≤ a := fun a k q => by unfold PTl at q; omega
theorem PTl_M {m : Nat} {M : MM} {I' : Nat → Nat → Int} (hm : m ≤ 12) (hM : MatC m M I) (h : Fr PTl I I') : MatC m M I' := by
  intro s hs j hj
  rw [h _ _ (by unfold PTl; omega), h _ _ (by unfold PTl; omega)]
  exact hM s hs j hj
/-- how the trying ends on the desk -/
def TrEnd (m : Nat) (R : Int × Nat × (Nat → Int)) (D : Option ((Int × mS) ⊕ mS)) (S : mS) (I' : Nat → Nat → Int) : Prop :=
  ((R.1 = -2 ∧ D = some (Sum.inr S)) ∨ (R.1 = 0 ∧ D = some (Sum.inl (-1, S))) ∨ (R.1 = 1 ∧ D = some (Sum.inl ((m : Int), S)) ∧ ∀ j, j < m → I' 255 j = R.2.2 j)) ∧ I' 254 3 = (R.2.1 : Nat)
theorem x6_39 (hw : WF T) (hW : ∀ s, s < nSa T → RowS (W (188 + 15 + s)) (lft T s)) : ∀ (v a k u f : Nat) (Y : Nat → Int) (I : Nat → Nat → Int), TrI (nSa T) v a Y k → v < f → u + v = 60000 → BC T (bdA T) I → I 254 3 = (k : Int) → (∀ j, j < a → j < nSa T → I 255 j = Y j) →
    ∃ I', TrEnd (nSa T) (trN (lft T) (nSa T) (fitA T) v a Y k) (D_X6_seek_39 f 254 ((a : Int) - 1) (u : Int) (st g n c I W p)) (st g n c I' W p) I' ∧ Fr PTl I I' := by
  have hw' := hw.1
  unfold WFn at hw'
  have hm : nSa T ≤ 12 := by unfold nSa; omega
  intro v
  induction v with
  | zero =>
    intro a k u f Y I hI
    exact absurd hI.g (Nat.lt_irrefl 0)
  | succ v ih =>
    intro a k u f Y I hI hf hu hB h3 h5
    obtain ⟨f, rfl⟩ : ∃ g, f = g + 1 := ⟨f - 1, by omega⟩
    have hI' := hI
    obtain ⟨i1, i2, i3, i4, i5, i6⟩ := hI'
    by_cases a0 : a = 0
    · subst a0
      refine ⟨I, ⟨Or.inr (Or.inl ⟨rfl, ?_⟩), h3⟩, Fr.rfl'⟩
      show (if (60000 : Int) ≤ (u : Int) then _ else _) = _
      rw [if_neg (by omega), if_pos (by omega)]
      rfl
    obtain ⟨b, rfl⟩ : ∃ b, a = b + 1 := ⟨a - 1, by omega⟩
    have eb : ((b + 1 : Nat) : Int) - 1 = (b : Int) := by omega
    rw [eb]
    have eT : ∀ {R : Option ((Int × mS) ⊕ mS)}, (if T 304 ≤ (b : Int) then some (Sum.inl ((b : Int), st g n c I W p)) else
          (gR (st g n c I W p) 254 6 5).bind fun v3 =>
          (gR (st g n c I W p) v3 0 3).bind fun v4 =>
          (lR (st g n c I W p) v4 (b : Int)).bind fun v5 =>
          (gR (st g n c I W p) 254 6 0).bind fun v6 =>
          (lI (st g n c I W p) v6 (b : Int)).bind fun v7 =>
          (D_X7_nextIn v5 (mw (v7 + 1)) (st g n c I W p)).bind fun r8 =>
          if r8 < 1000 then
            (gI (st g n c I W p) 254 6 3).bind fun v9 =>
            if v9 ≠ 20000 then
              (gI (st g n c I W p) 254 6 3).bind fun v10 =>
              (pI (st g n c I W p) 254 6 3 (mw (v10 + 1))).bind fun s11 =>
              (gR s11 254 6 0).bind fun v12 =>
              (sI s11 v12 (b : Int) r8).bind fun s13 =>
              (tgO s13 254 6).bind fun _ =>
              (D_X6_fitsThoseAhead 254 (b : Int) s13).bind fun r14 =>
              if r14 = 0 then
                D_X6_seek_151 (D_X6_seek_39 f) 254 (b : Int) (u : Int) s13
              else
                (gR s13 254 6 4).bind fun v15 =>
                (gI s13 v15 5 3).bind fun v16 =>
                if v16 ≤ (mw ((b : Int) + 1)) then
                  D_X6_seek_151 (D_X6_seek_39 f) 254 (mw ((b : Int) + 1)) (u : Int) s13
                else
                  (gR s13 254 6 0).bind fun v17 =>
                  (sI s13 v17 (mw ((b : Int) + 1)) ((-1))).bind fun s18 =>
                  D_X6_seek_151 (D_X6_seek_39 f) 254 (mw ((b : Int) + 1)) (u : Int) s18
            else
              some (Sum.inr (st g n c I W p))
          else
            D_X6_seek_151 (D_X6_seek_39 f) 254 (mw ((b : Int) + (-1))) (u : Int) (st g n c I W p)) = R → D_X6_seek_39 (f + 1) 254 (b : Int) (u : Int) (st g n c I W p) = R := by
      intro R hR
      show (if (60000 : Int) ≤ (u : Int) then _ else _) = _
      rw [if_neg (by omega), if_neg (by omega)]
      refine bdk t6R4 (bdk (t5I TB34) ?_)
      rw [hB.1.1.2.2.2.1]
      exact hR
    by_cases am : nSa T < b + 1
    · have e : b = nSa T := by omega
      have et : trN (lft T) (nSa T) (fitA T) (v + 1) (b + 1) Y k = (1, k, Y) := by
        show (if b + 1 = 0 then _ else if nSa T < b + 1 then _ else _) = _
        rw [if_neg (by omega), if_pos am]
      rw [et]
      refine ⟨I, ⟨Or.inr (Or.inr ⟨rfl, ?_, fun j hj => h5 j (by omega) hj⟩), h3⟩, Fr.rfl'⟩
      refine eT ?_
      rw [if_pos (by unfold nSa at e; omega), ← e]
    obtain ⟨y, hy⟩ : ∃ y, y = nx (lft T b) (Y b + 1).toNat := ⟨_, rfl⟩
    have yb := i5 b
    have y0 : y ≤ 1000 := by rw [hy]; exact nx_le (by omega)
    have bm : b < nSa T := by omega
    have b12 : b < 12 := by omega
    have ec : trN (lft T) (nSa T) (fitA T) (v + 1) (b + 1) Y k = if y = 1000 then trN (lft T) (nSa T) (fitA T) v b (fun j => if j = b then -1 else Y j) k
        else if k = 20000 then (-2, k, Y) else if fitA T (fun j => if j = b then (y : Int) else Y j) b = true then trN (lft T) (nSa T) (fitA T) v (b + 2) (fun j => if j = b then (y : Int) else Y j) (k + 1) else trN (lft T) (nSa T) (fitA T) v (b + 1) (fun j => if j = b then (y : Int) else Y j) (k + 1) := by
      rw [hy]
      show (if b + 1 = 0 then _ else if nSa T < b + 1 then _ else _) = _
      rw [if_neg (by omega), if_neg am]
      rfl
    have en : D_X7_nextIn (188 + 15 + b) (mw (Y b + 1)) (st g n c I W p) = some (y : Int) := by
      rw [mw_of (by omega) (by omega), show Y b + 1 = (((Y b + 1).toNat : Nat) : Int) by omega, r_nextIn (n0H15 nb188 b12) (hW b bm), hy]
      congr 2
      by_cases q : (Y b + 1).toNat < 1000
      · rw [if_pos q]
      · rw [if_neg q, show (Y b + 1).toNat = 1000 by omega, nx_1000]
    rw [ec]
    have pre : ∀ {R : Option ((Int × mS) ⊕ mS)}, (if (y : Int) < 1000 then (if (k : Int) ≠ 20000 then
              (pI (st g n c I W p) 254 6 3 (mw ((k : Int) + 1))).bind fun s11 =>
              (gR s11 254 6 0).bind fun v12 =>
              (sI s11 v12 (b : Int) (y : Int)).bind fun s13 =>
              (tgO s13 254 6).bind fun _ =>
              (D_X6_fitsThoseAhead 254 (b : Int) s13).bind fun r14 =>
              if r14 = 0 then
                D_X6_seek_151 (D_X6_seek_39 f) 254 (b : Int) (u : Int) s13
              else
                (gR s13 254 6 4).bind fun v15 =>
                (gI s13 v15 5 3).bind fun v16 =>
                if v16 ≤ (mw ((b : Int) + 1)) then
                  D_X6_seek_151 (D_X6_seek_39 f) 254 (mw ((b : Int) + 1)) (u : Int) s13
                else
                  (gR s13 254 6 0).bind fun v17 =>
                  (sI s13 v17 (mw ((b : Int) + 1)) ((-1))).bind fun s18 =>
                  D_X6_seek_151 (D_X6_seek_39 f) 254 (mw ((b : Int) + 1)) (u : Int) s18
            else some (Sum.inr (st g n c I W p)))
          else D_X6_seek_151 (D_X6_seek_39 f) 254 (mw ((b : Int) + (-1))) (u : Int) (st g n c I W p)) = R → D_X6_seek_39 (f + 1) 254 (b : Int) (u : Int) (st g n c I W p) = R := by
      intro R hR
      refine eT ?_
      rw [if_neg (by unfold nSa at bm; omega)]
      refine bdk t6R5 (bdk (n0R3 nb188) (bdk (n0A14 nb188 (by omega) (by omega)) (bdk t6R0 (bdk (t6L (by omega) (by omega)) ?_))))
      rw [toN, h5 b (by omega) bm]
      refine bdk en ?_
      by_cases q : (y : Int) < 1000
      · rw [if_pos q] at hR ⊢
        refine bdk t6I ?_
        rw [h3]
        by_cases q2 : (k : Int) ≠ 20000
        · rw [if_pos q2] at hR ⊢
          refine bdk t6I ?_
          rw [h3]
          exact hR
        · rw [if_neg q2] at hR ⊢
          exact hR
      · rw [if_neg q] at hR ⊢
        exact hR
    have nxt : D_X6_seek_151 (D_X6_seek_39 f) = fun x0 x1 x2 σ => D_X6_seek_39 f x0 x1 (mw (x2 + 1)) σ := rfl
    rw [nxt] at pre
    by_cases q : y = 1000
    · rw [if_pos q]
      obtain ⟨I1, e1, f1⟩ := ih b k (u + 1) f (fun j => if j = b then -1 else Y j) I (hI.back (by omega)) (by omega) (by omega) hB h3 (fun j hj hm2 => by
        show I 255 j = if j = b then -1 else Y j
        rw [if_neg (by omega)]
        exact h5 j (by omega) hm2)
      refine ⟨I1, ?_, f1⟩
      have ed : D_X6_seek_39 (f + 1) 254 (b : Int) (u : Int) (st g n c I W p) = D_X6_seek_39 f 254 ((b : Int) - 1) ((u + 1 : Nat) : Int) (st g n c I W p) := by
        refine pre ?_
        rw [if_neg (by omega), mw_of (by omega) (by omega)]
        show D_X6_seek_39 f 254 _ (mw ((u : Int) + 1)) _ = _
        rw [mw_n (by omega), show (b : Int) + -1 = (b : Int) - 1 by omega]
      rw [ed]
      exact e1
    rw [if_neg q]
    have yS : lft T b y = true := by rw [hy]; exact nx_yes (by rw [← hy]; omega)
    by_cases q2 : k = 20000
    · rw [if_pos q2]
      refine ⟨I, ⟨Or.inl ⟨rfl, pre ?_⟩, h3⟩, Fr.rfl'⟩
      rw [if_pos (by omega), if_neg (by omega)]
    rw [if_neg q2]
    obtain ⟨J, hJ⟩ : ∃ J, J = u2 (u2 I 254 3 ((k + 1 : Nat) : Int)) 255 b (y : Int) := ⟨_, rfl⟩
    have fJ : Fr PTl I J := fun x j w => by unfold PTl at w; rw [hJ, u2_ne _ _ (by omega), u2_ne _ _ (by omega)]
    have bJ : BC T (bdA T) J := ⟨hB.1.fr hw.1 fJ PTl_T, PTl_M hm hB.2 fJ⟩
    have j3 : J 254 3 = ((k + 1 : Nat) : Int) := by rw [hJ, u2_ne _ _ (by omega), u2_eq]
    have j5 : ∀ j, j < b + 1 → j < nSa T → J 255 j = if j = b then (y : Int) else Y j := fun j h1 h2 => by
      by_cases e : j = b
      · subst e; rw [if_pos rfl, hJ, u2_eq]
      · rw [if_neg e, hJ, u2_ne _ _ (by omega), u2_ne _ _ (by omega)]; exact h5 j h1 h2
    have ef := x6_fits (g := g) (n := n) (c := c) (W := W) (p := p) (I := J) (Y := fun j => if j = b then (y : Int) else Y j) hw bm hm bJ.2 (fun j hj => j5 j (by omega) (by omega)) (fun j hj => by
      show 0 ≤ (if j = b then (y : Int) else Y j) ∧ (if j = b then (y : Int) else Y j) ≤ 999
      by_cases e : j = b
      · rw [if_pos e]; omega
      · rw [if_neg e]; exact i4 j (by omega)) (by omega : y < 1000) yS
    have pre2 : ∀ {R : Option ((Int × mS) ⊕ mS)}, (if fitA T (fun j => if j = b then (y : Int) else Y j) b = true then
                (if T 304 ≤ ((b + 1 : Nat) : Int) then D_X6_seek_39 f 254 ((b + 1 : Nat) : Int) ((u + 1 : Nat) : Int) (st g n c J W p)
                else D_X6_seek_39 f 254 ((b + 1 : Nat) : Int) ((u + 1 : Nat) : Int) (st g n c (u2 J 255 (b + 1) (-1)) W p))
              else D_X6_seek_39 f 254 (b : Int) ((u + 1 : Nat) : Int) (st g n c J W p)) = R → D_X6_seek_39 (f + 1) 254 (b : Int) (u : Int) (st g n c I W p) = R := by
      intro R hR
      refine pre ?_
      rw [if_pos (by omega), if_pos (by omega), mw_n (by omega)]
      refine bdk t6P (bdk t6R0 (bdk (t6S (by omega) (by omega)) (bdk t6T ?_)))
      rw [toN, ← hJ]
      refine bdk ef ?_
      by_cases q3 : fitA T (fun j => if j = b then (y : Int) else Y j) b = true
      · rw [if_pos q3] at hR ⊢
        rw [if_neg (by decide)]
        refine bdk t6R4 (bdk (t5I TB34) ?_)
        rw [bJ.1.1.2.2.2.1, mw_n (by omega)]
        by_cases q4 : T 304 ≤ ((b + 1 : Nat) : Int)
        · rw [if_pos q4] at hR ⊢
          show D_X6_seek_39 f 254 _ (mw ((u : Int) + 1)) _ = _
          rw [mw_n (by omega)]
          exact hR
        · rw [if_neg q4] at hR ⊢
          refine bdk t6R0 (bdk (t6S (by omega) (by omega)) ?_)
          rw [toN]
          show D_X6_seek_39 f 254 _ (mw ((u : Int) + 1)) _ = _
          rw [mw_n (by omega)]
          exact hR
      · rw [if_neg q3] at hR ⊢
        rw [if_pos rfl]
        show D_X6_seek_39 f 254 _ (mw ((u : Int) + 1)) _ = _
        rw [mw_n (by omega)]
        exact hR
    by_cases q3 : fitA T (fun j => if j = b then (y : Int) else Y j) b = true
    · rw [if_pos q3]
      by_cases q4 : T 304 ≤ ((b + 1 : Nat) : Int)
      · obtain ⟨I1, e1, f1⟩ := ih (b + 2) (k + 1) (u + 1) f (fun j => if j = b then (y : Int) else Y j) J (hI.go (by omega) (by omega) q2 (by omega)) (by omega) (by omega) bJ j3 (fun j h1 h2 => j5 j (by unfold nSa at h2; omega) h2)
        refine ⟨I1, ?_, Fr.trans' fJ f1⟩
        have ed : D_X6_seek_39 (f + 1) 254 (b : Int) (u : Int) (st g n c I W p) = D_X6_seek_39 f 254 (((b + 2 : Nat) : Int) - 1) ((u + 1 : Nat) : Int) (st g n c J W p) := by
          refine pre2 ?_
          rw [if_pos q3, if_pos q4, show ((b + 2 : Nat) : Int) - 1 = ((b + 1 : Nat) : Int) by omega]
        rw [ed]
        exact e1
      · have fK : Fr PTl J (u2 J 255 (b + 1) (-1)) := fun x j w => by unfold PTl at w; rw [u2_ne _ _ (by omega)]
        obtain ⟨I1, e1, f1⟩ := ih (b + 2) (k + 1) (u + 1) f (fun j => if j = b then (y : Int) else Y j) (u2 J 255 (b + 1) (-1)) (hI.go (by omega) (by omega) q2 (by omega)) (by omega) (by omega) ⟨bJ.1.fr hw.1 fK PTl_T, PTl_M hm bJ.2 fK⟩ (by rw [u2_ne _ _ (by omega)]; exact j3) (fun j h1 h2 => by
          by_cases e : j = b + 1
          · subst e
            rw [u2_eq]
            show -1 = if b + 1 = b then (y : Int) else Y (b + 1)
            rw [if_neg (by omega), i6 (b + 1) (Nat.le_refl _)]
          · rw [u2_ne _ _ (by omega)]
            exact j5 j (by omega) h2)
        refine ⟨I1, ?_, Fr.trans' fJ (Fr.trans' fK f1)⟩
        have ed : D_X6_seek_39 (f + 1) 254 (b : Int) (u : Int) (st g n c I W p) = D_X6_seek_39 f 254 (((b + 2 : Nat) : Int) - 1) ((u + 1 : Nat) : Int) (st g n c (u2 J 255 (b + 1) (-1)) W p) := by
          refine pre2 ?_
          rw [if_pos q3, if_neg q4, show ((b + 2 : Nat) : Int) - 1 = ((b + 1 : Nat) : Int) by omega]
        rw [ed]
        exact e1
    · rw [if_neg q3]
      obtain ⟨I1, e1, f1⟩ := ih (b + 1) (k + 1) (u + 1) f (fun j => if j = b then (y : Int) else Y j) J (hI.stay (by omega) q2 (by omega)) (by omega) (by omega) bJ j3 (fun j h1 h2 => j5 j h1 h2)
      refine ⟨I1, ?_, Fr.trans' fJ f1⟩
      have ed : D_X6_seek_39 (f + 1) 254 (b : Int) (u : Int) (st g n c I W p) = D_X6_seek_39 f 254 (((b + 1 : Nat) : Int) - 1) ((u + 1 : Nat) : Int) (st g n c J W p) := by
        refine pre2 ?_
        rw [if_neg q3, eb]
      rw [ed]
      exact e1
/-- what the desk notes of a trial -/
def Tri (T : Td) (I : Nat → Nat → Int) : Prop := I 254 2 = (trS T).1 ∧ I 254 3 = ((trS T).2.1 : Nat) ∧ ((trS T).1 = 1 → ∀ j, j < nSa T → I 255 j = (trS T).2.2 j)
def PTr (x k : Nat) : Prop := PM x k ∨ x = 255 ∨ (x = 254 ∧ 1 ≤ k ∧ k ≤ 3)
theorem x6_seek (hw : WF T) (hT : ClsT 34 T I) (hN : NowC T I W) (h1 : I 254 1 = 0 ∨ (I 254 1 = 1 ∧ Tri T I)) :
    ∃ I', D_X6_seek 254 (st g n c I W p) = some (st g n c I' W p) ∧ I' 254 1 = 1 ∧ Tri T I' ∧ Fr PTr I I' := by
  rcases h1 with h1 | ⟨h1, hR⟩
  · obtain ⟨I1, e1, b1, f1⟩ := x6_bindAll (g := g) (n := n) (c := c) (I := u2 I 254 1 1) (W := W) (p := p) hw (hT.fr (P := fun x _ => x = 254) hw.1 (fun x k q => u2_ne _ _ (by omega)) (fun a k q => Or.inr (by omega)))
    obtain ⟨J, hJ⟩ : ∃ J, J = u2 (u2 (u2 I1 254 3 0) 254 2 (-2)) 255 0 (-1) := ⟨_, rfl⟩
    have fJ : Fr PTr I J := fun x k q => by
      have qm : ¬ PM x k := fun w => q (Or.inl w)
      unfold PTr at q
      rw [hJ, u2_ne _ _ (by omega), u2_ne _ _ (by omega), u2_ne _ _ (by omega), f1 x k qm, u2_ne _ _ (by omega)]
    have b2 : BC T (bdA T) J := by
      refine ⟨b1.1.fr (P := fun x _ => x = 254 ∨ x = 255) hw.1 (fun x k q => ?_) (fun a k q => Or.inr (by omega)), fun s hs h hh => ?_⟩
      · rw [hJ, u2_ne _ _ (by omega), u2_ne _ _ (by omega), u2_ne _ _ (by omega)]
      · rw [hJ, u2_ne _ _ (by omega), u2_ne _ _ (by omega), u2_ne _ _ (by omega), u2_ne _ _ (by omega), u2_ne _ _ (by omega), u2_ne _ _ (by omega)]
        exact b1.2 s hs h hh
    obtain ⟨I2, ⟨e2, e3⟩, f2⟩ := x6_39 (g := g) (n := n) (c := c) (W := W) (p := p) hw (fun s hs => hN.row hs) 60000 1 0 0 mFU (fun _ => -1) J TrI.st (by decide) rfl b2 (by rw [hJ, u2_ne _ _ (by omega), u2_ne _ _ (by omega), u2_eq]; rfl) (fun j h1 h2 => by
      have : j = 0 := by omega
      subst this
      rw [hJ, u2_eq])
    have er : trN (lft T) (nSa T) (fitA T) 60000 1 (fun _ => -1) 0 = trS T := rfl
    rw [er] at e2 e3
    have g1 : I2 254 1 = 1 := by
      rw [f2 _ _ (by unfold PTl; omega), hJ, u2_ne _ _ (by omega), u2_ne _ _ (by omega), u2_ne _ _ (by omega), f1 _ _ (by unfold PM; omega), u2_eq]
    have g2 : I2 254 2 = -2 := by
      rw [f2 _ _ (by unfold PTl; omega), hJ, u2_ne _ _ (by omega), u2_eq]
    have pre : ∀ {R : Option mS}, ((D_X6_seek_39 mFU 254 0 0 (st g n c J W p)).bind fun r8 =>
        match r8 with
        | (Sum.inl z9) => D_X6_seek_157 254 z9.1 z9.2
        | (Sum.inr z10) => some z10) = R → D_X6_seek 254 (st g n c I W p) = R := by
      intro R hR
      unfold D_X6_seek
      refine bdk t6I ?_
      rw [h1, if_pos rfl]
      refine bdk (t6B (Or.inr rfl)) (bdk t6T (bdk e1 (bdk t6P (bdk t6P (bdk t6R0 (bdk (t6S (by decide) (by decide)) ?_))))))
      have e0 : u2 (u2 (u2 I1 254 3 0) 254 2 (-2)) 255 (0 : Int).toNat (-1) = J := hJ.symm
      rw [e0]
      exact hR
    have q0 : ((1 : Nat) : Int) - 1 = 0 := by omega
    have q1 : ((0 : Nat) : Int) = 0 := rfl
    rw [q0, q1] at e2
    have fr2 : ∀ x : Int, Fr PTr I (u2 I2 254 2 x) := fun x a k q => by
      have w := q
      unfold PTr at q
      rw [u2_ne _ _ (by omega), f2 a k (by unfold PTl; omega), fJ a k w]
    rcases e2 with ⟨r, e2⟩ | ⟨r, e2⟩ | ⟨r, e2, e4⟩
    · refine ⟨I2, pre (bdk e2 rfl), g1, ⟨by rw [g2, r], e3, fun w => by omega⟩, fun a k q => ?_⟩
      have w := q
      unfold PTr at q
      rw [f2 a k (by unfold PTl; omega), fJ a k w]
    · refine ⟨u2 I2 254 2 0, pre (bdk e2 ?_), by rw [u2_ne _ _ (by omega)]; exact g1, ⟨by rw [u2_eq, r], by rw [u2_ne _ _ (by omega)]; exact e3, fun w => by omega⟩, fr2 0⟩
      show D_X6_seek_157 254 (-1) (st g n c I2 W p) = _
      unfold D_X6_seek_157 D_X6_seek_167
      rw [if_neg (by decide)]
      exact bdk t6P rfl
    · refine ⟨u2 I2 254 2 1, pre (bdk e2 ?_), by rw [u2_ne _ _ (by omega)]; exact g1, ⟨by rw [u2_eq, r], by rw [u2_ne _ _ (by omega)]; exact e3, fun _ j hj => by rw [u2_ne _ _ (by omega)]; exact e4 j hj⟩, fr2 1⟩
      show D_X6_seek_157 254 (nSa T : Int) (st g n c I2 W p) = _
      unfold D_X6_seek_157 D_X6_seek_167
      rw [if_pos (by omega)]
      exact bdk t6P rfl
  · refine ⟨I, ?_, h1, hR, Fr.rfl'⟩
    unfold D_X6_seek
    refine bdk t6I ?_
    rw [h1, if_neg (by decide)]
end TK
