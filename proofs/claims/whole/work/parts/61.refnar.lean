/-! THE PURE PART: the reference's narrowing -/
def bI (b : Bool) : Int := if b = true then 1 else 0
theorem bI_01 (b : Bool) : bI b = 0 ∨ bI b = 1 := by cases b; exact Or.inl rfl; exact Or.inr rfl
theorem u2_def {α : Type} (f : Nat → Nat → α) (a k : Nat) (x : α) (b j : Nat) : u2 f a k x b j = if b = a ∧ j = k then x else f b j := rfl
theorem toN (s : Nat) : ((s : Nat) : Int).toNat = s := rfl
def NarM (m : Nat) (N : NS) (I : Nat → Nat → Int) : Prop :=
  (∀ s, s < m → ∀ y, y < 1000 → I (1193 + s) y = bI (nS N s y)) ∧ (∀ r, r < 24 → I 1218 r = nG N r) ∧ (I 1170 24 = if nCs N = -2 then 0 else 1) ∧ (nCs N ≠ -2 → I 1170 21 = nCr N ∧ I 1170 22 = nCs N) ∧ I 1170 23 = nCh N
def PN (b k : Nat) : Prop := (1193 ≤ b ∧ b ≤ 1204) ∨ b = 1218 ∨ b = 1219 ∨ (b = 1170 ∧ 21 ≤ k ∧ k ≤ 24)
def Fr (P : Nat → Nat → Prop) (I I' : Nat → Nat → Int) : Prop := ∀ b k, ¬ P b k → I' b k = I b k
theorem Fr.rfl' {P : Nat → Nat → Prop} {I : Nat → Nat → Int} : Fr P I I := fun _ _ _ => rfl
theorem Fr.trans' {P : Nat → Nat → Prop} {I J K : Nat → Nat → Int} (h : Fr P I J) (h2 : Fr P J K) : Fr P I K := fun b k q => (h2 b k q).trans (h b k q)
theorem Fr.mono {P Q : Nat → Nat → Prop} {I J : Nat → Nat → Int} (hq : ∀ b k, P b k → Q b k) (h : Fr P I J) : Fr Q I J := fun b k q => h b k (fun r => q (hq b k r))
section RN
variable {n : Nat} {c : Nat × Nat × Nat × Nat} {I : Nat → Nat → Int} {W : Nat → Nat → BitVec 64} {p : Nat → Nat}
theorem x9_size {a : Nat} {S : Nat → Bool} (x0 : Nat) (ha : HC true a = (53, 1000)) (hS : ∀ y, y < 1000 → I a y = bI (S y)) : D_X9_size x0 a (st true n c I W p) = some ((ct S 1000 : Nat) : Int) := by
  have L : ∀ d i f, i + d = 1000 → d < f → D_X9_size_4 f a ((ct S i : Nat) : Int) (i : Nat) (st true n c I W p) = some ((ct S 1000 : Nat) : Int) := by
    intro d
    induction d with
    | zero =>
      intro i f hi hf
      obtain ⟨f, rfl⟩ : ∃ g, f = g + 1 := ⟨f - 1, by omega⟩
      have e : i = 1000 := by omega
      subst e
      exact if_pos (by omega)
    | succ d ih =>
      intro i f hi hf
      obtain ⟨f, rfl⟩ : ∃ g, f = g + 1 := ⟨f - 1, by omega⟩
      have b1 := ct_le S i
      have nxt := ih (i + 1) f (by omega) (by omega)
      rw [ct_s] at nxt
      show (if (1000 : Int) ≤ (i : Nat) then _ else _) = _
      rw [if_neg (by omega)]
      refine bdk (s_lB (Or.inl rfl) ha (by omega) (by omega)) ?_
      rw [toN, hS i (by omega)]
      unfold D_X9_size_23
      cases q : S i
      · rw [q] at nxt
        rw [if_pos (show bI false = 0 from rfl), mw_n (by omega), mw_of (by omega) (by omega)]
        rw [if_neg (by decide)] at nxt
        exact nxt
      · rw [q] at nxt
        rw [if_neg (by decide), mw_n (by omega), mw_of (by omega) (by omega)]
        rw [if_pos rfl] at nxt
        exact nxt
  unfold D_X9_size
  exact bdk (L 1000 0 mFU rfl (by decide)) rfl
theorem x9_takes {r s y : Nat} (hr : r < 24) (hs : s < 12) (hy : y < 1000) (h1 : 0 ≤ I 1218 r ∧ I 1218 r < 13000) (h2 : 0 ≤ I 1170 23 ∧ I 1170 23 < 13000) :
    D_X9_takes 1170 (r : Int) (s : Int) (y : Int) (st true n c I W p) = some (st true n c (u2 (u2 (u2 I (1193 + s) y 0) 1218 r (I 1218 r + 1)) 1170 23 (I 1170 23 + 1)) W p) := by
  unfold D_X9_takes
  refine bdk z9R14 (bdk (z9A14 (by omega) (by omega)) (bdk (z9S14 (by omega) (Or.inl rfl) (by omega) (by omega)) (bdk z9R25 (bdk (z9L25 (by omega) (by omega)) (bdk (z9S25 (by omega) (by omega)) (bdk z9I (bdk z9P ?_)))))))
  rw [toN, toN, toN]
  have e1 : u2 I (1193 + s) y 0 1218 r = I 1218 r := u2_ne _ _ (by omega)
  have e2 : u2 (u2 I (1193 + s) y 0) 1218 r (mw (u2 I (1193 + s) y 0 1218 r + 1)) 1170 23 = I 1170 23 := (u2_ne _ _ (by omega)).trans (u2_ne _ _ (by omega))
  rw [e2, e1, mw_of (by omega) (by omega), mw_of (by omega) (by omega)]
theorem x9_meets {m : Nat} {N : NS} {r : Int} {s : Nat} {cr cs : Int} (hm : m ≤ 12) (hs : s < m) (hN : NarM m N I) (hcr : cr = if nCs N = -2 ∧ ct (nS N s) 1000 = 0 then r else nCr N) (hcs : cs = if nCs N = -2 ∧ ct (nS N s) 1000 = 0 then (s : Int) else nCs N) :
    ∃ I', D_X9_meets 1170 r (s : Int) (st true n c I W p) = some (st true n c I' W p) ∧ NarM m (nS N, nG N, cr, cs, nCh N) I' ∧ Fr PN I I' := by
  obtain ⟨h1, h2, h3, h4, h5⟩ := hN
  by_cases q : nCs N = -2
  · rw [if_pos q] at h3
    by_cases z : ct (nS N s) 1000 = 0
    · rw [if_pos ⟨q, z⟩] at hcr hcs
      refine ⟨u2 (u2 (u2 I 1170 24 1) 1170 21 r) 1170 22 s, ?_, ⟨?_, ?_, ?_, ?_, ?_⟩, ?_⟩
      · unfold D_X9_meets
        refine bdk z9I ?_
        rw [if_neg (by rw [h3]; decide)]
        refine bdk z9R14 (bdk (z9A14 (by omega) (by omega)) (bdk z9T (bdk (x9_size (S := nS N s) 1170 (rh14 s (by omega)) (h1 s hs)) ?_)))
        rw [if_pos (by omega)]
        exact bdk (z9B (Or.inr rfl)) (bdk z9P (bdk z9P rfl))
      · intro t ht y hy
        simp only [u2_def]
        rw [if_neg (by omega), if_neg (by omega), if_neg (by omega)]
        exact h1 t ht y hy
      · intro t ht
        simp only [u2_def]
        rw [if_neg (by omega), if_neg (by omega), if_neg (by omega)]
        exact h2 t ht
      · show _ = if cs = -2 then 0 else 1
        rw [if_neg (by omega)]
        simp only [u2_def]
        simp
      · intro _
        show _ = cr ∧ _ = cs
        simp only [u2_def]
        simp [hcr, hcs]
      · simp only [u2_def]
        rw [if_neg (by omega), if_neg (by omega), if_neg (by omega)]
        exact h5
      · intro b k hb
        unfold PN at hb
        simp only [u2_def]
        rw [if_neg (by omega), if_neg (by omega), if_neg (by omega)]
    · rw [if_neg (fun w => z w.2)] at hcr hcs
      refine ⟨I, ?_, ⟨h1, h2, ?_, fun hh => ?_, h5⟩, Fr.rfl'⟩
      · unfold D_X9_meets
        refine bdk z9I ?_
        rw [if_neg (by rw [h3]; decide)]
        refine bdk z9R14 (bdk (z9A14 (by omega) (by omega)) (bdk z9T (bdk (x9_size (S := nS N s) 1170 (rh14 s (by omega)) (h1 s hs)) ?_)))
        rw [if_neg (by omega)]
        rfl
      · show _ = if cs = -2 then 0 else 1
        rw [hcs, if_pos q]
        exact h3
      · exact absurd (hcs.trans q) hh
  · rw [if_neg q] at h3
    rw [if_neg (fun w => q w.1)] at hcr hcs
    refine ⟨I, ?_, ⟨h1, h2, ?_, fun hh => ?_, h5⟩, Fr.rfl'⟩
    · unfold D_X9_meets
      refine bdk z9I ?_
      rw [if_pos (by rw [h3]; decide)]
      rfl
    · show _ = if cs = -2 then 0 else 1
      rw [hcs, if_neg q]
      exact h3
    · show _ = cr ∧ _ = cs
      rw [hcr, hcs]
      exact h4 q
theorem x9_pre {o : Nat} {S : Nat → Bool} (ho : o < 12) (hS : ∀ y, y < 1000 → I (1193 + o) y = bI (S y)) : ∀ d i f (I1 : Nat → Nat → Int), i + d = 1000 → d < f → (∀ b, b ≠ 1219 → I1 b = I b) → (∀ k, k ≤ i → I1 1219 k = ((ct S k : Nat) : Int)) →
    ∃ I', D_X9_narrows_10 f 1170 (o : Int) (i : Nat) (st true n c I1 W p) = some (st true n c I' W p) ∧ (∀ b, b ≠ 1219 → I' b = I b) ∧ ∀ k, k ≤ 1000 → I' 1219 k = ((ct S k : Nat) : Int) := by
  intro d
  induction d with
  | zero =>
    intro i f I1 hi hf h1 h2
    obtain ⟨f, rfl⟩ : ∃ g, f = g + 1 := ⟨f - 1, by omega⟩
    have e : i = 1000 := by omega
    subst e
    exact ⟨I1, if_pos (by omega), h1, h2⟩
  | succ d ih =>
    intro i f I1 hi hf h1 h2
    obtain ⟨f, rfl⟩ : ∃ g, f = g + 1 := ⟨f - 1, by omega⟩
    have b1 := ct_le S i
    obtain ⟨I', e, g1, g2⟩ := ih (i + 1) f (u2 I1 1219 (i + 1) (ct S i + bI (S i))) (by omega) (by omega) (fun b hb => by rw [← h1 b hb]; funext k; exact if_neg (fun q => hb q.1)) (fun k hk => by
      rw [u2_def]
      by_cases q : k = i + 1
      · subst q
        rw [if_pos ⟨rfl, rfl⟩, ct_s]
        unfold bI
        split <;> omega
      · rw [if_neg (fun w => q w.2)]
        exact h2 k (by omega))
    refine ⟨I', ?_, g1, g2⟩
    show (if (1000 : Int) ≤ (i : Nat) then _ else _) = _
    rw [if_neg (by omega)]
    refine bdk z9R26 (bdk z9R26 (bdk (z9L26 (by omega) (by omega)) (bdk z9R14 (bdk (z9A14 (by omega) (by omega)) (bdk (z9L14 (by omega) (by omega) (by omega)) ?_)))))
    rw [toN, toN, h1 _ (by omega), hS i (by omega), h2 i (Nat.le_refl _), mw_n (by omega)]
    unfold D_X9_narrows_50
    cases q : S i
    · rw [if_pos (show bI false = 0 from rfl)]
      refine bdk (z9S26 (by omega) (by omega)) ?_
      rw [mw_n (by omega), mw_of (by omega) (by omega), toN]
      rw [q] at e
      exact e
    · rw [if_neg (by decide)]
      refine bdk (z9S26 (by omega) (by omega)) ?_
      rw [mw_n (by omega), mw_of (by omega) (by omega), toN]
      rw [q] at e
      exact e
/-- where the going stands, at a year -/
def nst (I0 : Nat → Nat → Int) (r s : Nat) (S : Nat → Bool) (keep : Nat → Bool) (i : Nat) (I1 : Nat → Nat → Int) : Prop :=
  (∀ y, y < 1000 → I1 (1193 + s) y = bI (S y && (decide (i ≤ y) || keep y))) ∧ I1 1218 r = I0 1218 r + ((ct (fun y => S y && !keep y) i : Nat) : Int) ∧ I1 1170 23 = I0 1170 23 + ((ct (fun y => S y && !keep y) i : Nat) : Int) ∧
  Fr (fun b k => b = 1193 + s ∨ (b = 1218 ∧ k = r) ∨ (b = 1170 ∧ k = 23)) I0 I1
theorem nst_keep {I0 I1 : Nat → Nat → Int} {r s i : Nat} {S keep : Nat → Bool} (h : nst I0 r s S keep i I1) (hk : (S i && !keep i) = false) : nst I0 r s S keep (i + 1) I1 := by
  obtain ⟨h1, h2, h3, h4⟩ := h
  refine ⟨fun y hy => ?_, ?_, ?_, h4⟩
  · rw [h1 y hy]
    congr 1
    by_cases q : y = i
    · subst q
      rw [decide_eq_true (Nat.le_refl _), decide_eq_false (by omega : ¬ y + 1 ≤ y)]
      cases q1 : S y <;> cases q2 : keep y <;> simp_all
    · have : decide (i ≤ y) = decide (i + 1 ≤ y) := by rw [decide_eq_decide]; omega
      rw [this]
  · rw [h2, ct_s, hk]; simp
  · rw [h3, ct_s, hk]; simp
theorem nst_take {I0 I1 : Nat → Nat → Int} {r s i : Nat} {S keep : Nat → Bool} (hi : i < 1000) (hs : s < 12) (h : nst I0 r s S keep i I1) (hk : (S i && !keep i) = true) : nst I0 r s S keep (i + 1) (u2 (u2 (u2 I1 (1193 + s) i 0) 1218 r (I1 1218 r + 1)) 1170 23 (I1 1170 23 + 1)) := by
  obtain ⟨h1, h2, h3, h4⟩ := h
  refine ⟨fun y hy => ?_, ?_, ?_, fun b k hb => ?_⟩
  · simp only [u2_def]
    rw [if_neg (by omega), if_neg (by omega)]
    by_cases q : y = i
    · subst q
      rw [if_pos (by simp), decide_eq_false (by omega : ¬ y + 1 ≤ y)]
      cases q1 : S y <;> cases q2 : keep y <;> simp_all [bI]
    · rw [if_neg (fun w => q w.2), h1 y hy]
      have : decide (i ≤ y) = decide (i + 1 ≤ y) := by rw [decide_eq_decide]; omega
      rw [this]
  · simp only [u2_def]
    rw [if_neg (by omega), if_pos (by simp), h2, ct_s, hk, if_pos rfl]
    omega
  · simp only [u2_def]
    rw [if_pos (by simp), h3, ct_s, hk, if_pos rfl]
    omega
  · simp only [u2_def]
    rw [if_neg (fun w => hb (Or.inr (Or.inr w))), if_neg (fun w => hb (Or.inr (Or.inl w))), if_neg (fun w => hb (Or.inl w.1))]
    exact h4 b k hb
theorem x9_n130 {r s i : Nat} {I0 : Nat → Nat → Int} {S keep : Nat → Bool} (rec : Nat → Int → Int → Int → Int → Int → mS → Option mS) (lo hi : Int) (hr : r < 24) (hs : s < 12) (hi2 : i < 1000) (hg : 0 ≤ I0 1218 r ∧ I0 1218 r ≤ 12000) (hc : 0 ≤ I0 1170 23 ∧ I0 1170 23 ≤ 12000) (h : nst I0 r s S keep i I) :
    ∃ I', D_X9_narrows_130 rec 1170 (r : Int) (s : Int) lo hi (i : Int) (bI (keep i)) (st true n c I W p) = rec 1170 (r : Int) (s : Int) lo hi ((i + 1 : Nat) : Int) (st true n c I' W p) ∧ nst I0 r s S keep (i + 1) I' := by
  have hb := ct_le (fun y => S y && !keep y) i
  unfold D_X9_narrows_130 D_X9_narrows_157
  rw [mw_n (by omega)]
  have h1 := h.1 i hi2
  rw [decide_eq_true (Nat.le_refl i), Bool.true_or, Bool.and_true] at h1
  cases q : S i
  · refine ⟨I, bdk z9R14 (bdk (z9A14 (by omega) (by omega)) (bdk (z9L14 hs (by omega) (by omega)) ?_)), nst_keep h (by rw [q]; rfl)⟩
    rw [toN, toN, h1, q]
    exact if_pos rfl
  · cases q2 : keep i
    · refine ⟨_, bdk z9R14 (bdk (z9A14 (by omega) (by omega)) (bdk (z9L14 hs (by omega) (by omega)) ?_)), nst_take hi2 hs h (by rw [q, q2]; rfl)⟩
      rw [toN, toN, h1, q, if_neg (by decide), if_neg (by decide)]
      exact bdk z9T (bdk (x9_takes hr hs hi2 (by rw [h.2.1]; omega) (by rw [h.2.2.1]; omega)) rfl)
    · refine ⟨I, bdk z9R14 (bdk (z9A14 (by omega) (by omega)) (bdk (z9L14 hs (by omega) (by omega)) ?_)), nst_keep h (by rw [q, q2]; rfl)⟩
      rw [toN, toN, h1, q, if_neg (by decide)]
      exact if_pos (by decide)
theorem x9_n67 {r s o : Nat} {I0 : Nat → Nat → Int} {S : Nat → Bool} {So : Nat → Nat → Bool} {lo hi : Int} (hr : r < 24) (hs : s < 12) (ho : o < 12) (hlo : -1000 ≤ lo ∧ lo ≤ 1000) (hhi : -1000 ≤ hi ∧ hi ≤ 1000) (hg : 0 ≤ I0 1218 r ∧ I0 1218 r ≤ 12000) (hc : 0 ≤ I0 1170 23 ∧ I0 1170 23 ≤ 12000)
    (hp : ∀ k, k ≤ 1000 → I0 1219 k = ((ct (So o) k : Nat) : Int)) : ∀ d i f (I1 : Nat → Nat → Int), i + d = 1000 → d < f → nst I0 r s S (keepO So (s, o, lo, hi)) i I1 →
    ∃ I', D_X9_narrows_67 f 1170 (r : Int) (s : Int) lo hi (i : Nat) (st true n c I1 W p) = some (st true n c I' W p) ∧ nst I0 r s S (keepO So (s, o, lo, hi)) 1000 I' := by
  intro d
  induction d with
  | zero =>
    intro i f I1 hi2 hf h
    obtain ⟨f, rfl⟩ : ∃ g, f = g + 1 := ⟨f - 1, by omega⟩
    have e : i = 1000 := by omega
    subst e
    exact ⟨I1, if_pos (by omega), h⟩
  | succ d ih =>
    intro i f I1 hi2 hf h
    obtain ⟨f, rfl⟩ : ∃ g, f = g + 1 := ⟨f - 1, by omega⟩
    have hk : keepO So (s, o, lo, hi) i = decide (ct (fun z => So o z && decide ((i : Int) + lo ≤ (z : Int) ∧ (z : Int) ≤ (i : Int) + hi)) 1000 ≠ 0) := if_neg (by show ¬ o = 99; omega)
    have h19 : ∀ k, k ≤ 1000 → I1 1219 k = ((ct (So o) k : Nat) : Int) := fun k hk2 => (h.2.2.2 1219 k (by omega)).trans (hp k hk2)
    have key : D_X9_narrows_67 (f + 1) 1170 (r : Int) (s : Int) lo hi (i : Nat) (st true n c I1 W p) = D_X9_narrows_130 (D_X9_narrows_67 f) 1170 (r : Int) (s : Int) lo hi (i : Int) (bI (keepO So (s, o, lo, hi) i)) (st true n c I1 W p) := by
      show (if (1000 : Int) ≤ (i : Nat) then _ else _) = _
      rw [if_neg (by omega), mw_of (x := (i : Int) + hi) (by omega) (by omega), mw_of (x := (i : Int) + lo) (by omega) (by omega)]
      obtain ⟨A, hA⟩ : ∃ A : Nat, (if 0 < (i : Int) + lo then (i : Int) + lo else 0) = (A : Int) := ⟨(if 0 < (i : Int) + lo then (i : Int) + lo else 0).toNat, by split <;> omega⟩
      rw [hA]
      by_cases q : (if (i : Int) + hi < 999 then (i : Int) + hi else 999) < (A : Int)
      · rw [if_pos q]
        have z : keepO So (s, o, lo, hi) i = false := by
          rw [hk, decide_eq_false_iff_not, Decidable.not_not, ct_0]
          intro z hz
          rw [decide_eq_false (by split at hA <;> split at q <;> omega), Bool.and_false]
        rw [z]
        rfl
      · rw [if_neg q]
        obtain ⟨B, hB⟩ : ∃ B : Nat, (if (i : Int) + hi < 999 then (i : Int) + hi else 999) = (B : Int) := ⟨(if (i : Int) + hi < 999 then (i : Int) + hi else 999).toNat, by omega⟩
        rw [hB] at q ⊢
        have hB2 : B < 1000 := by split at hB <;> omega
        have w := ct_win (S := So o) (lo := A) (hi := B) (by omega) hB2 (i : Int) lo hi (fun z hz => by split at hA <;> split at hB <;> omega)
        refine bdk z9R26 ?_
        rw [mw_n (by omega)]
        refine bdk (z9L26 (by omega) (by omega)) (bdk z9R26 (bdk (z9L26 (by omega) (by omega)) ?_))
        rw [toN, toN, h19 _ (by omega), h19 _ (by omega)]
        by_cases v : ct (So o) A < ct (So o) (B + 1)
        · rw [if_neg (by omega), hk, decide_eq_true (w.1 v)]
          rfl
        · rw [if_pos (by omega), hk, decide_eq_false (fun x => v (w.2 x))]
          rfl
    rw [key]
    obtain ⟨I2, e, h2⟩ := x9_n130 (n := n) (c := c) (W := W) (p := p) (D_X9_narrows_67 f) lo hi hr hs (by omega) hg hc h
    rw [e]
    exact ih (i + 1) f I2 (by omega) (by omega) h2
theorem nst_end {m : Nat} {I I' : Nat → Nat → Int} {r s : Nat} {keep : Nat → Bool} {N : NS} (hm : m ≤ 12) (hs : s < m) (hr : r < 24) (hN : NarM m N I) (h : nst I r s (nS N s) keep 1000 I') :
    NarM m (nS (cutN r s keep N), nG (cutN r s keep N), nCr N, nCs N, nCh (cutN r s keep N)) I' ∧ I' 1170 23 = I 1170 23 + ((ct (fun y => nS N s y && !keep y) 1000 : Nat) : Int) := by
  obtain ⟨h1, h2, h3, h4⟩ := h
  obtain ⟨g1, g2, g3, g4, g5⟩ := hN
  refine ⟨⟨fun t ht y hy => ?_, fun q hq => ?_, ?_, fun hh => ⟨?_, ?_⟩, ?_⟩, h3⟩
  · by_cases e : t = s
    · subst e
      rw [h1 y hy, decide_eq_false (by omega), Bool.false_or]
      show _ = bI (if t = t then _ else _)
      rw [if_pos rfl]
    · rw [h4 _ _ (by omega), g1 t ht y hy]
      show _ = bI (if t = s then _ else _)
      rw [if_neg e]
  · show _ = (if q = r then _ else _)
    by_cases e : q = r
    · subst e
      rw [h2, if_pos rfl, g2 q hq]
    · rw [if_neg e, h4 _ _ (by omega), g2 q hq]
  · rw [h4 _ _ (by omega)]; exact g3
  · rw [h4 _ _ (by omega)]; exact (g4 hh).1
  · rw [h4 _ _ (by omega)]; exact (g4 hh).2
  · rw [h3, g5]
    rfl
theorem cut_end {m : Nat} {r s : Nat} {keep : Nat → Bool} {N : NS} {I'' : Nat → Nat → Int} (z : ct (fun y => nS N s y && !keep y) 1000 ≠ 0)
    (h : NarM m (nS (cutN r s keep N), nG (cutN r s keep N), (if nCs N = -2 ∧ ct (nS (cutN r s keep N) s) 1000 = 0 then (r : Int) else nCr N), (if nCs N = -2 ∧ ct (nS (cutN r s keep N) s) 1000 = 0 then (s : Int) else nCs N), nCh (cutN r s keep N)) I'') : NarM m (cutN r s keep N) I'' := by
  have e : ct (nS (cutN r s keep N) s) 1000 = ct (fun y => nS N s y && keep y) 1000 := ct_cong fun y _ => if_pos rfl
  rw [e] at h
  have : cutN r s keep N = (nS (cutN r s keep N), nG (cutN r s keep N), (if nCs N = -2 ∧ ct (fun y => nS N s y && keep y) 1000 = 0 then (r : Int) else nCr N), (if nCs N = -2 ∧ ct (fun y => nS N s y && keep y) 1000 = 0 then (s : Int) else nCs N), nCh (cutN r s keep N)) := by
    refine Prod.ext rfl (Prod.ext rfl (Prod.ext ?_ (Prod.ext ?_ rfl)))
    · show (if ct (fun y => nS N s y && !keep y) 1000 ≠ 0 ∧ nCs N = -2 ∧ ct (fun y => nS N s y && keep y) 1000 = 0 then (r : Int) else nCr N) = _
      by_cases q : nCs N = -2 ∧ ct (fun y => nS N s y && keep y) 1000 = 0
      · rw [if_pos ⟨z, q⟩, if_pos q]
      · rw [if_neg (fun w => q w.2), if_neg q]
    · show (if ct (fun y => nS N s y && !keep y) 1000 ≠ 0 ∧ nCs N = -2 ∧ ct (fun y => nS N s y && keep y) 1000 = 0 then (s : Int) else nCs N) = (if nCs N = -2 ∧ ct (fun y => nS N s y && keep y) 1000 = 0 then (s : Int) else nCs N)
      by_cases q : nCs N = -2 ∧ ct (fun y => nS N s y && keep y) 1000 = 0
      · rw [if_pos ⟨z, q⟩, if_pos q]
      · rw [if_neg (fun w => q w.2), if_neg q]
  rw [this]
  exact h
theorem cut_none {m : Nat} {r s : Nat} {keep : Nat → Bool} {N : NS} {I' : Nat → Nat → Int} (z : ct (fun y => nS N s y && !keep y) 1000 = 0)
    (h : NarM m (nS (cutN r s keep N), nG (cutN r s keep N), nCr N, nCs N, nCh (cutN r s keep N)) I') : NarM m (cutN r s keep N) I' := by
  have : cutN r s keep N = (nS (cutN r s keep N), nG (cutN r s keep N), nCr N, nCs N, nCh (cutN r s keep N)) := by
    refine Prod.ext rfl (Prod.ext rfl (Prod.ext ?_ (Prod.ext ?_ rfl)))
    · exact if_neg (fun w => w.1 z)
    · exact if_neg (fun w => w.1 z)
  rw [this]
  exact h
theorem x9_fin {m : Nat} {r s : Nat} {keep : Nat → Bool} {N : NS} {I' : Nat → Nat → Int} {F : mS → Option mS} (hF : ∀ σ, F σ = some σ) (hm : m ≤ 12) (hs : s < m) (hr : r < 24) (hN : NarM m N I) (hv : Ninv m N) (h : nst I r s (nS N s) keep 1000 I') :
    ∃ I'', (gI (st true n c I' W p) 1170 8 23).bind (fun v6 => if v6 ≤ I 1170 23 then F (st true n c I' W p) else (tgO (st true n c I' W p) 1170 8).bind fun _ => (D_X9_meets 1170 (r : Int) (s : Int) (st true n c I' W p)).bind F) = some (st true n c I'' W p) ∧ NarM m (cutN r s keep N) I'' ∧ Fr PN I I'' := by
  obtain ⟨g1, g2⟩ := nst_end hm hs hr hN h
  have fr : Fr PN I I' := Fr.mono (fun b k w => by unfold PN; omega) h.2.2.2
  by_cases z : ct (fun y => nS N s y && !keep y) 1000 = 0
  · refine ⟨I', bdk z9I ?_, cut_none z g1, fr⟩
    rw [if_pos (by omega)]
    exact hF _
  · obtain ⟨I'', e, w1, w2⟩ := x9_meets (n := n) (c := c) (W := W) (p := p) (r := (r : Int)) hm hs g1 rfl rfl
    refine ⟨I'', bdk z9I ?_, cut_end z w1, Fr.trans' fr w2⟩
    rw [if_neg (by omega)]
    exact bdk z9T (bdk e (hF _))
theorem x9_narrows {m : Nat} {r s o : Nat} {lo hi : Int} {N : NS} (hm : m ≤ 12) (hs : s < m) (ho : o < m) (hso : s ≠ o) (hr : r < 24) (hlo : -1000 ≤ lo ∧ lo ≤ 1000) (hhi : -1000 ≤ hi ∧ hi ≤ 1000) (hN : NarM m N I) (hv : Ninv m N) :
    ∃ I', D_X9_narrows 1170 (r : Int) (s : Int) (o : Int) lo hi (st true n c I W p) = some (st true n c I' W p) ∧ NarM m (doO r (s, o, lo, hi) N) I' ∧ Fr PN I I' := by
  obtain ⟨I1, e1, f1, f2⟩ := x9_pre (n := n) (c := c) (W := W) (p := p) (I := I) (o := o) (S := nS N o) (by omega) (hN.1 o ho) 1000 0 mFU (u2 I 1219 0 0) rfl (by decide) (fun b hb => by funext k; exact if_neg (fun q => hb q.1)) (fun k hk => by
    have : k = 0 := by omega
    subst this
    exact if_pos ⟨rfl, rfl⟩)
  have hN1 : NarM m N I1 := ⟨fun t ht y hy => by rw [f1 _ (by omega)]; exact hN.1 t ht y hy, fun q hq => by rw [f1 _ (by omega)]; exact hN.2.1 q hq, by rw [f1 _ (by omega)]; exact hN.2.2.1, by rw [f1 _ (by omega)]; exact hN.2.2.2.1, by rw [f1 _ (by omega)]; exact hN.2.2.2.2⟩
  have hg := hv.1 r
  have hc := hv.2
  obtain ⟨I2, e2, h2⟩ := x9_n67 (n := n) (c := c) (W := W) (p := p) (I0 := I1) (s := s) (S := nS N s) (So := nS N) (lo := lo) (hi := hi) hr (by omega) (by omega : o < 12) hlo hhi (by rw [hN1.2.1 r hr]; omega) (by rw [hN1.2.2.2.2]; omega) f2 1000 0 mFU I1 rfl (by decide) ⟨fun y hy => by
      rw [decide_eq_true (Nat.zero_le y), Bool.true_or, Bool.and_true]
      exact hN1.1 s hs y hy, by show _ = _ + ((0 : Nat) : Int); omega, by show _ = _ + ((0 : Nat) : Int); omega, Fr.rfl'⟩
  obtain ⟨I3, e3, w1, w2⟩ := x9_fin (n := n) (c := c) (W := W) (p := p) (F := D_X9_narrows_178) (fun _ => rfl) hm hs hr hN1 hv h2
  refine ⟨I3, ?_, w1, Fr.trans' (fun b k hb => by rw [f1 b (fun w => hb (by unfold PN; omega))]) w2⟩
  unfold D_X9_narrows
  exact bdk z9R26 (bdk (z9S26 (by omega) (by omega)) (bdk e1 (bdk z9I (bdk e2 e3))))
theorem x9_b9 {r s : Nat} {I0 : Nat → Nat → Int} {S : Nat → Bool} {lo hi : Int} (hr : r < 24) (hs : s < 12) (hg : 0 ≤ I0 1218 r ∧ I0 1218 r ≤ 12000) (hc : 0 ≤ I0 1170 23 ∧ I0 1170 23 ≤ 12000) : ∀ d i f (I1 : Nat → Nat → Int), i + d = 1000 → d < f → nst I0 r s S (fun y : Nat => decide (lo ≤ (y : Int) ∧ (y : Int) ≤ hi)) i I1 →
    ∃ I', D_X9_bounded_9 f 1170 (r : Int) (s : Int) lo hi (i : Nat) (st true n c I1 W p) = some (st true n c I' W p) ∧ nst I0 r s S (fun y : Nat => decide (lo ≤ (y : Int) ∧ (y : Int) ≤ hi)) 1000 I' := by
  intro d
  induction d with
  | zero =>
    intro i f I1 hi2 hf h
    obtain ⟨f, rfl⟩ : ∃ g, f = g + 1 := ⟨f - 1, by omega⟩
    have e : i = 1000 := by omega
    subst e
    exact ⟨I1, if_pos (by omega), h⟩
  | succ d ih =>
    intro i f I1 hi2 hf h
    obtain ⟨f, rfl⟩ : ∃ g, f = g + 1 := ⟨f - 1, by omega⟩
    have hb := ct_le (fun y => S y && !(fun y : Nat => decide (lo ≤ (y : Int) ∧ (y : Int) ≤ hi)) y) i
    have h1 := h.1 i (by omega)
    rw [decide_eq_true (Nat.le_refl i), Bool.true_or, Bool.and_true] at h1
    have stp : ∃ I2, D_X9_bounded_9 (f + 1) 1170 (r : Int) (s : Int) lo hi (i : Nat) (st true n c I1 W p) = D_X9_bounded_9 f 1170 (r : Int) (s : Int) lo hi ((i + 1 : Nat) : Int) (st true n c I2 W p) ∧ nst I0 r s S (fun y : Nat => decide (lo ≤ (y : Int) ∧ (y : Int) ≤ hi)) (i + 1) I2 := by
      cases q : S i
      · refine ⟨I1, ?_, nst_keep h (by rw [q]; rfl)⟩
        show (if (1000 : Int) ≤ (i : Nat) then _ else _) = _
        rw [if_neg (by omega)]
        refine bdk z9R14 (bdk (z9A14 (by omega) (by omega)) (bdk (z9L14 hs (by omega) (by omega)) ?_))
        rw [toN, toN, h1, q, if_pos (show bI false = 0 from rfl)]
        unfold D_X9_bounded_50
        rw [mw_n (by omega)]
      · by_cases k : lo ≤ (i : Int) ∧ (i : Int) ≤ hi
        · refine ⟨I1, ?_, nst_keep h (by rw [q]; simp [k])⟩
          show (if (1000 : Int) ≤ (i : Nat) then _ else _) = _
          rw [if_neg (by omega)]
          refine bdk z9R14 (bdk (z9A14 (by omega) (by omega)) (bdk (z9L14 hs (by omega) (by omega)) ?_))
          rw [toN, toN, h1, q, if_neg (by decide), if_neg (by omega), if_pos (by omega)]
          unfold D_X9_bounded_50
          rw [mw_n (by omega)]
        · refine ⟨_, ?_, nst_take (by omega) hs h (by rw [q, decide_eq_false k]; rfl)⟩
          show (if (1000 : Int) ≤ (i : Nat) then _ else _) = _
          rw [if_neg (by omega)]
          refine bdk z9R14 (bdk (z9A14 (by omega) (by omega)) (bdk (z9L14 hs (by omega) (by omega)) ?_))
          rw [toN, toN, h1, q, if_neg (by decide)]
          have tk : D_X9_bounded_42 (D_X9_bounded_9 f) 1170 (r : Int) (s : Int) lo hi (i : Int) (st true n c I1 W p) = D_X9_bounded_9 f 1170 (r : Int) (s : Int) lo hi ((i + 1 : Nat) : Int) (st true n c (u2 (u2 (u2 I1 (1193 + s) i 0) 1218 r (I1 1218 r + 1)) 1170 23 (I1 1170 23 + 1)) W p) := by
            unfold D_X9_bounded_42 D_X9_bounded_50
            rw [mw_n (by omega)]
            exact bdk z9T (bdk (x9_takes hr hs (by omega) (by rw [h.2.1]; omega) (by rw [h.2.2.1]; omega)) rfl)
          by_cases k1 : (i : Int) < lo
          · rw [if_pos k1]; exact tk
          · rw [if_neg k1, if_neg (by omega)]; exact tk
    obtain ⟨I2, e, h2⟩ := stp
    rw [e]
    exact ih (i + 1) f I2 (by omega) (by omega) h2
theorem x9_bounded {m : Nat} {r s : Nat} {lo hi : Int} {N : NS} (hm : m ≤ 12) (hs : s < m) (hr : r < 24) (hN : NarM m N I) (hv : Ninv m N) :
    ∃ I', D_X9_bounded 1170 (r : Int) (s : Int) lo hi (st true n c I W p) = some (st true n c I' W p) ∧ NarM m (doO r (s, 99, lo, hi) N) I' ∧ Fr PN I I' := by
  have hg := hv.1 r
  have hc := hv.2
  have ek : keepO (nS N) (s, 99, lo, hi) = fun y : Nat => decide (lo ≤ (y : Int) ∧ (y : Int) ≤ hi) := by funext y; exact if_pos rfl
  obtain ⟨I2, e2, h2⟩ := x9_b9 (n := n) (c := c) (W := W) (p := p) (I0 := I) (S := nS N s) (lo := lo) (hi := hi) hr (by omega : s < 12) (by rw [hN.2.1 r hr]; omega) (by rw [hN.2.2.2.2]; omega) 1000 0 mFU I rfl (by decide) ⟨fun y hy => by
      rw [decide_eq_true (Nat.zero_le y), Bool.true_or, Bool.and_true]
      exact hN.1 s hs y hy, by show _ = _ + ((0 : Nat) : Int); omega, by show _ = _ + ((0 : Nat) : Int); omega, Fr.rfl'⟩
  rw [← ek] at h2
  obtain ⟨I3, e3, w1, w2⟩ := x9_fin (n := n) (c := c) (W := W) (p := p) (F := D_X9_bounded_71) (fun _ => rfl) hm hs hr hN hv h2
  refine ⟨I3, ?_, w1, w2⟩
  unfold D_X9_bounded
  exact bdk z9I (bdk e2 e3)
end RN
