/-! THE PURE PART: what is told is copied, added to, dropped from; the curve's ages laid -/
theorem TB_disj {a b : Nat} (ha : TB a) (hb : TB b) (h : a ≠ b) : a + 74 ≤ b ∨ b + 74 ≤ a := by
  obtain ⟨j, hj, rfl⟩ := ha
  obtain ⟨k, hk, rfl⟩ := hb
  exact (by decide +kernel : ∀ j, j < 14 → ∀ k, k < 14 → tb j ≠ tb k → tb j + 74 ≤ tb k ∨ tb k + 74 ≤ tb j) j hj k hk h
def PT (a x : Nat) : Prop := a ≤ x ∧ x < a + 74
section CT
variable {g : Bool} {n : Nat} {c : Nat × Nat × Nat × Nat} {I : Nat → Nat → Int} {W : Nat → Nat → BitVec 64} {p : Nat → Nat} {a b : Nat} {T : Td}
theorem x4_copy {s : Nat} (ha : TB a) (hb : TB b) (hab : a ≠ b) (hs : s < 12) (h01 : I (b + 6 + 3 * s) 0 = 0 ∨ I (b + 6 + 3 * s) 0 = 1) :
    ∃ I', D_X4_copyFrom (a + 6 + 3 * s) (b + 6 + 3 * s) (st g n c I W p) = some (st g n c I' W p) ∧ (∀ k, k < 3 → I' (a + 6 + 3 * s) k = I (b + 6 + 3 * s) k) ∧ (∀ k, k < 6 → I' (a + 6 + 3 * s + 1) k = I (b + 6 + 3 * s + 1) k ∧ I' (a + 6 + 3 * s + 2) k = I (b + 6 + 3 * s + 2) k) ∧
      Fr (fun x _ => a + 6 + 3 * s ≤ x ∧ x < a + 6 + 3 * s + 3) I I' := by
  have dj := TB_disj ha hb hab
  generalize hJ : u2 (u2 (u2 I (a + 6 + 3 * s) 0 (I (b + 6 + 3 * s) 0)) (a + 6 + 3 * s) 1 (I (b + 6 + 3 * s) 1)) (a + 6 + 3 * s) 2 (I (b + 6 + 3 * s) 2) = J
  have j0 : ∀ x k, x ≠ a + 6 + 3 * s → J x k = I x k := fun x k q => by rw [← hJ, u2_def, if_neg (fun w => q w.1), u2_def, if_neg (fun w => q w.1), u2_def, if_neg (fun w => q w.1)]
  have j1 : ∀ k, k < 3 → J (a + 6 + 3 * s) k = I (b + 6 + 3 * s) k := fun k hk => by
    have : k = 0 ∨ k = 1 ∨ k = 2 := by omega
    rcases this with rfl | rfl | rfl
    · rw [← hJ, u2_def, if_neg (by omega), u2_def, if_neg (by omega), u2_def, if_pos ⟨rfl, rfl⟩]
    · rw [← hJ, u2_def, if_neg (by omega), u2_def, if_pos ⟨rfl, rfl⟩]
    · rw [← hJ, u2_def, if_pos ⟨rfl, rfl⟩]
  refine ⟨fun r j => if r = a + 6 + 3 * s + 2 ∧ j < 6 then (if b + 6 + 3 * s + 2 = a + 6 + 3 * s + 1 ∧ j < 6 then J (b + 6 + 3 * s + 1) j else J (b + 6 + 3 * s + 2) j) else (if r = a + 6 + 3 * s + 1 ∧ j < 6 then J (b + 6 + 3 * s + 1) j else J r j), ?_, fun k hk => ?_, fun k hk => ⟨?_, ?_⟩, fun x k q => ?_⟩
  · unfold D_X4_copyFrom
    have r1 : u2 I (a + 6 + 3 * s) 0 (I (b + 6 + 3 * s) 0) (b + 6 + 3 * s) 1 = I (b + 6 + 3 * s) 1 := by rw [u2_def, if_neg (by omega)]
    have r2 : u2 (u2 I (a + 6 + 3 * s) 0 (I (b + 6 + 3 * s) 0)) (a + 6 + 3 * s) 1 (I (b + 6 + 3 * s) 1) (b + 6 + 3 * s) 2 = I (b + 6 + 3 * s) 2 := by rw [u2_def, if_neg (by omega), u2_def, if_neg (by omega)]
    refine bdk (t4I hb hs) (bdk (t4B ha hs h01) (bdk (t4I hb hs) ?_))
    rw [r1]
    refine bdk (t4P ha hs) (bdk (t4I hb hs) ?_)
    rw [r2]
    refine bdk (t4P ha hs) ?_
    rw [hJ]
    exact bdk (t4R3 hb hs) (bdk (t4R3 ha hs) (bdk (s_cpI (tHs1 hb hs) (tHs1 ha hs) (by decide) (by decide) (by decide)) (bdk (t4R4 hb hs) (bdk (t4R4 ha hs) (bdk (s_cpI (tHs2 hb hs) (tHs2 ha hs) (by decide) (by decide) (by decide)) rfl)))))
  · show (if _ ∧ _ then _ else _) = _
    rw [if_neg (by omega), if_neg (by omega)]
    exact j1 k hk
  · show (if _ ∧ _ then _ else _) = _
    rw [if_neg (by omega), if_pos ⟨rfl, hk⟩]
    exact j0 _ _ (by omega)
  · show (if _ ∧ _ then _ else _) = _
    rw [if_pos ⟨rfl, hk⟩, if_neg (by omega)]
    exact j0 _ _ (by omega)
  · show (if _ ∧ _ then _ else _) = _
    rw [if_neg (by omega), if_neg (by omega)]
    exact j0 _ _ (by omega)
theorem x1_copy {s : Nat} (ha : TB a) (hb : TB b) (hab : a ≠ b) (hs : s < 4) :
    ∃ I', D_X1_copyFrom (a + 42 + 2 * s) (b + 42 + 2 * s) (st g n c I W p) = some (st g n c I' W p) ∧ I' (a + 42 + 2 * s) 0 = I (b + 42 + 2 * s) 0 ∧ (∀ k, k < 6 → I' (a + 42 + 2 * s + 1) k = I (b + 42 + 2 * s + 1) k) ∧ Fr (fun x _ => a + 42 + 2 * s ≤ x ∧ x < a + 42 + 2 * s + 2) I I' := by
  have dj := TB_disj ha hb hab
  refine ⟨fun r j => if r = a + 42 + 2 * s + 1 ∧ j < 6 then u2 I (a + 42 + 2 * s) 0 (I (b + 42 + 2 * s) 0) (b + 42 + 2 * s + 1) j else u2 I (a + 42 + 2 * s) 0 (I (b + 42 + 2 * s) 0) r j, ?_, ?_, fun k hk => ?_, fun x k q => ?_⟩
  · unfold D_X1_copyFrom
    exact bdk (t1I hb hs) (bdk (t1P ha hs) (bdk (t1R1 hb hs) (bdk (t1R1 ha hs) (bdk (s_cpI (tHp1 hb hs) (tHp1 ha hs) (by decide) (by decide) (by decide)) rfl))))
  · show (if _ ∧ _ then _ else _) = _
    rw [if_neg (by omega), u2_def, if_pos ⟨rfl, rfl⟩]
  · show (if _ ∧ _ then _ else _) = _
    rw [if_pos ⟨rfl, hk⟩, u2_def, if_neg (by omega)]
  · show (if _ ∧ _ then _ else _) = _
    rw [if_neg (by omega), u2_def, if_neg (by omega)]
theorem x3_copy {r q : Nat} {a b : Nat} (ha : TB a) (hb : TB b) (hr : r < 24) (hq : q < 24) (hd : a + 50 + r ≠ b + 50 + q) :
    ∃ I', D_X3_copyFrom (a + 50 + r) (b + 50 + q) (st g n c I W p) = some (st g n c I' W p) ∧ (∀ w, w < 5 → I' (a + 50 + r) w = I (b + 50 + q) w) ∧ Fr (fun x _ => x = a + 50 + r) I I' := by
  generalize hx : a + 50 + r = x at *
  generalize hy : b + 50 + q = y at *
  have e : ∀ (J : Nat → Nat → Int) (k : Nat) (v : Int) (w : Nat), u2 J x k v y w = J y w := fun J k v w => by rw [u2_def, if_neg (fun z => hd z.1.symm)]
  refine ⟨u2 (u2 (u2 (u2 (u2 I x 0 (I y 0)) x 1 (I y 1)) x 2 (I y 2)) x 3 (I y 3)) x 4 (I y 4), ?_, fun w hw => ?_, fun z k q2 => ?_⟩
  · have gy : ∀ (J : Nat → Nat → Int) (k : Nat), gI (st g n c J W p) y 3 k = some (J y k) := fun J k => by rw [← hy]; exact t3I hb hq
    have px : ∀ (J : Nat → Nat → Int) (k : Nat) (v : Int), pI (st g n c J W p) x 3 k v = some (st g n c (u2 J x k v) W p) := fun J k v => by rw [← hx]; exact t3P ha hr
    unfold D_X3_copyFrom
    refine bdk (gy _ _) (bdk (px _ _ _) (bdk (gy _ _) ?_))
    rw [e]
    refine bdk (px _ _ _) (bdk (gy _ _) ?_)
    rw [e, e]
    refine bdk (px _ _ _) (bdk (gy _ _) ?_)
    rw [e, e, e]
    refine bdk (px _ _ _) (bdk (gy _ _) ?_)
    rw [e, e, e, e]
    exact bdk (px _ _ _) rfl
  · have : w = 0 ∨ w = 1 ∨ w = 2 ∨ w = 3 ∨ w = 4 := by omega
    rcases this with rfl | rfl | rfl | rfl | rfl <;> simp [u2_def]
  · rw [u2_def, if_neg (fun w => q2 w.1), u2_def, if_neg (fun w => q2 w.1), u2_def, if_neg (fun w => q2 w.1), u2_def, if_neg (fun w => q2 w.1), u2_def, if_neg (fun w => q2 w.1)]
theorem x5_80 (ha : TB a) (hb : TB b) (hab : a ≠ b) {m : Nat} (hm : m ≤ 12) (h01 : ∀ s, s < m → I (b + 6 + 3 * s) 0 = 0 ∨ I (b + 6 + 3 * s) 0 = 1) : ∀ (d s f : Nat) (I1 : Nat → Nat → Int), s + d = m → d < f → I1 a 3 = (m : Int) → (∀ x k, b ≤ x → x < b + 74 → I1 x k = I x k) →
    ∃ I', D_X5_copyFrom_80 f a b (s : Nat) (st g n c I1 W p) = some (st g n c I' W p) ∧ (∀ t, s ≤ t → t < m → (∀ k, k < 3 → I' (a + 6 + 3 * t) k = I (b + 6 + 3 * t) k) ∧ ∀ k, k < 6 → I' (a + 6 + 3 * t + 1) k = I (b + 6 + 3 * t + 1) k ∧ I' (a + 6 + 3 * t + 2) k = I (b + 6 + 3 * t + 2) k) ∧ Fr (fun x _ => a + 6 + 3 * s ≤ x ∧ x < a + 42) I1 I' := by
  have dj := TB_disj ha hb hab
  intro d
  induction d with
  | zero =>
    intro s f I1 hs hf h3 hI
    obtain ⟨f, rfl⟩ : ∃ g, f = g + 1 := ⟨f - 1, by omega⟩
    refine ⟨I1, bdk (t5I ha) ?_, fun t t1 t2 => by omega, Fr.rfl'⟩
    rw [h3]
    exact if_pos (by omega)
  | succ d ih =>
    intro s f I1 hs hf h3 hI
    obtain ⟨f, rfl⟩ : ∃ g, f = g + 1 := ⟨f - 1, by omega⟩
    obtain ⟨I2, e2, g1, g2, g3⟩ := x4_copy (n := n) (c := c) (I := I1) (W := W) (p := p) (g := g) (s := s) ha hb hab (by omega) (by rw [hI _ _ (by omega) (by omega)]; exact h01 s (by omega))
    obtain ⟨I3, e3, k1, k2⟩ := ih (s + 1) f I2 (by omega) (by omega) (by rw [g3 _ _ (by omega)]; exact h3) (fun x k x1 x2 => by rw [g3 _ _ (by omega)]; exact hI x k x1 x2)
    refine ⟨I3, bdk (t5I ha) ?_, fun t t1 t2 => ?_, fun x k q => by rw [k2 x k (by omega), g3 x k (by omega)]⟩
    · rw [h3, if_neg (by omega)]
      refine bdk (t5R8 ha) (bdk (t5A3 ha (by omega) (by omega)) (bdk (t5R8 hb) (bdk (t5A3 hb (by omega) (by omega)) (bdk (t4T ha (by omega)) (bdk e2 ?_)))))
      rw [mw_n (by omega)]
      exact e3
    · by_cases q : t = s
      · subst q
        refine ⟨fun k hk => ?_, fun k hk => ⟨?_, ?_⟩⟩
        · rw [k2 _ _ (by omega), g1 k hk, hI _ _ (by omega) (by omega)]
        · rw [k2 _ _ (by omega), (g2 k hk).1, hI _ _ (by omega) (by omega)]
        · rw [k2 _ _ (by omega), (g2 k hk).2, hI _ _ (by omega) (by omega)]
      · exact k1 t (by omega) t2
theorem x5_111 (ha : TB a) (hb : TB b) (hab : a ≠ b) {m : Nat} (hm : m ≤ 4) : ∀ (d s f : Nat) (I1 : Nat → Nat → Int), s + d = m → d < f → I1 a 4 = (m : Int) → (∀ x k, b ≤ x → x < b + 74 → I1 x k = I x k) →
    ∃ I', D_X5_copyFrom_111 f a b (s : Nat) (st g n c I1 W p) = some (st g n c I' W p) ∧ (∀ t, s ≤ t → t < m → I' (a + 42 + 2 * t) 0 = I (b + 42 + 2 * t) 0 ∧ ∀ k, k < 6 → I' (a + 42 + 2 * t + 1) k = I (b + 42 + 2 * t + 1) k) ∧ Fr (fun x _ => a + 42 + 2 * s ≤ x ∧ x < a + 50) I1 I' := by
  have dj := TB_disj ha hb hab
  intro d
  induction d with
  | zero =>
    intro s f I1 hs hf h3 hI
    obtain ⟨f, rfl⟩ : ∃ g, f = g + 1 := ⟨f - 1, by omega⟩
    refine ⟨I1, bdk (t5I ha) ?_, fun t t1 t2 => by omega, Fr.rfl'⟩
    rw [h3]
    exact if_pos (by omega)
  | succ d ih =>
    intro s f I1 hs hf h3 hI
    obtain ⟨f, rfl⟩ : ∃ g, f = g + 1 := ⟨f - 1, by omega⟩
    obtain ⟨I2, e2, g1, g2, g3⟩ := x1_copy (n := n) (c := c) (I := I1) (W := W) (p := p) (g := g) (s := s) ha hb hab (by omega)
    obtain ⟨I3, e3, k1, k2⟩ := ih (s + 1) f I2 (by omega) (by omega) (by rw [g3 _ _ (by omega)]; exact h3) (fun x k x1 x2 => by rw [g3 _ _ (by omega)]; exact hI x k x1 x2)
    refine ⟨I3, bdk (t5I ha) ?_, fun t t1 t2 => ?_, fun x k q => by rw [k2 x k (by omega), g3 x k (by omega)]⟩
    · rw [h3, if_neg (by omega)]
      refine bdk (t5R9 ha) (bdk (t5A4 ha (by omega) (by omega)) (bdk (t5R9 hb) (bdk (t5A4 hb (by omega) (by omega)) (bdk (t1T ha (by omega)) (bdk e2 ?_)))))
      rw [mw_n (by omega)]
      exact e3
    · by_cases q : t = s
      · subst q
        refine ⟨?_, fun k hk => ?_⟩
        · rw [k2 _ _ (by omega), g1, hI _ _ (by omega) (by omega)]
        · rw [k2 _ _ (by omega), g2 k hk, hI _ _ (by omega) (by omega)]
      · exact k1 t (by omega) t2
theorem x5_142 (ha : TB a) (hb : TB b) (hab : a ≠ b) {m : Nat} (hm : m ≤ 24) : ∀ (d s f : Nat) (I1 : Nat → Nat → Int), s + d = m → d < f → I1 a 5 = (m : Int) → (∀ x k, b ≤ x → x < b + 74 → I1 x k = I x k) →
    ∃ I', D_X5_copyFrom_142 f a b (s : Nat) (st g n c I1 W p) = some (st g n c I' W p) ∧ (∀ t, s ≤ t → t < m → ∀ w, w < 5 → I' (a + 50 + t) w = I (b + 50 + t) w) ∧ Fr (fun x _ => a + 50 + s ≤ x ∧ x < a + 74) I1 I' := by
  have dj := TB_disj ha hb hab
  intro d
  induction d with
  | zero =>
    intro s f I1 hs hf h3 hI
    obtain ⟨f, rfl⟩ : ∃ g, f = g + 1 := ⟨f - 1, by omega⟩
    refine ⟨I1, bdk (t5I ha) ?_, fun t t1 t2 => by omega, Fr.rfl'⟩
    rw [h3]
    exact if_pos (by omega)
  | succ d ih =>
    intro s f I1 hs hf h3 hI
    obtain ⟨f, rfl⟩ : ∃ g, f = g + 1 := ⟨f - 1, by omega⟩
    obtain ⟨I2, e2, g1, g3⟩ := x3_copy (n := n) (c := c) (I := I1) (W := W) (p := p) (g := g) (r := s) (q := s) ha hb (by omega) (by omega) (by omega)
    obtain ⟨I3, e3, k1, k2⟩ := ih (s + 1) f I2 (by omega) (by omega) (by rw [g3 _ _ (by omega)]; exact h3) (fun x k x1 x2 => by rw [g3 _ _ (by omega)]; exact hI x k x1 x2)
    refine ⟨I3, bdk (t5I ha) ?_, fun t t1 t2 w hw => ?_, fun x k q => by rw [k2 x k (by omega), g3 x k (by omega)]⟩
    · rw [h3, if_neg (by omega)]
      refine bdk (t5R10 ha) (bdk (t5A5 ha (by omega) (by omega)) (bdk (t5R10 hb) (bdk (t5A5 hb (by omega) (by omega)) (bdk (t3T ha (by omega)) (bdk e2 ?_)))))
      rw [mw_n (by omega)]
      exact e3
    · by_cases q : t = s
      · subst q
        rw [k2 _ _ (by omega), g1 w hw, hI _ _ (by omega) (by omega)]
      · exact k1 t (by omega) t2 w hw
theorem x5_copy (ha : TB a) (hb : TB b) (hab : a ≠ b) (hw : WF T) (hT : ClsT b T I) : ∃ I', D_X5_copyFrom a b (st g n c I W p) = some (st g n c I' W p) ∧ ClsT a T I' ∧ Fr (fun x _ => PT a x) I I' := by
  have hn := hw.1
  unfold WFn at hn
  have dj := TB_disj ha hb hab
  have hm : nSa T ≤ 12 := by unfold nSa; omega
  have hp : nPh T ≤ 4 := by unfold nPh; omega
  have hr : nRu T ≤ 24 := by unfold nRu; omega
  obtain ⟨h1, h2, h3, h4, h5⟩ := hT
  generalize hJ : u2 (u2 (u2 (u2 (u2 (u2 I a 0 (I b 0)) a 1 (I b 1)) a 2 (I b 2)) a 3 (I b 3)) a 4 (I b 4)) a 5 (I b 5) = J
  have eb : ∀ (J : Nat → Nat → Int) (k : Nat) (v : Int) (w : Nat), u2 J a k v b w = J b w := fun J k v w => by rw [u2_def, if_neg (fun z => hab z.1.symm)]
  have j0 : ∀ x k, x ≠ a → J x k = I x k := fun x k q => by rw [← hJ, u2_def, if_neg (fun w => q w.1), u2_def, if_neg (fun w => q w.1), u2_def, if_neg (fun w => q w.1), u2_def, if_neg (fun w => q w.1), u2_def, if_neg (fun w => q w.1), u2_def, if_neg (fun w => q w.1)]
  have j1 : ∀ k, k < 6 → J a k = I b k := fun k hk => by
    have : k = 0 ∨ k = 1 ∨ k = 2 ∨ k = 3 ∨ k = 4 ∨ k = 5 := by omega
    rw [← hJ]
    rcases this with rfl | rfl | rfl | rfl | rfl | rfl <;> simp [u2_def]
  generalize hK : (fun r j => if r = a + 2 ∧ j < 16 then (fun r j => if r = a + 1 ∧ j < 16 then J (b + 1) j else J r j) (b + 2) j else (fun r j => if r = a + 1 ∧ j < 16 then J (b + 1) j else J r j) r j) = K
  have k0 : ∀ x k, x ≠ a → x ≠ a + 1 → x ≠ a + 2 → K x k = I x k := fun x k q1 q2 q3 => by
    rw [← hK]
    show (if x = a + 2 ∧ k < 16 then _ else (if x = a + 1 ∧ k < 16 then _ else _)) = _
    rw [if_neg (fun w => q3 w.1), if_neg (fun w => q2 w.1)]
    exact j0 x k q1
  have ka : ∀ k, k < 6 → K a k = I b k := fun k hk => by
    rw [← hK]
    show (if a = a + 2 ∧ k < 16 then _ else (if a = a + 1 ∧ k < 16 then _ else _)) = _
    rw [if_neg (by omega), if_neg (by omega)]
    exact j1 k hk
  have ka1 : ∀ k, k < 16 → K (a + 1) k = I (b + 1) k := fun k hk => by
    rw [← hK]
    show (if a + 1 = a + 2 ∧ k < 16 then _ else (if a + 1 = a + 1 ∧ k < 16 then J (b + 1) k else _)) = _
    rw [if_neg (by omega), if_pos ⟨rfl, hk⟩]
    exact j0 _ _ (by omega)
  have ka2 : ∀ k, k < 16 → K (a + 2) k = I (b + 2) k := fun k hk => by
    rw [← hK]
    show (if a + 2 = a + 2 ∧ k < 16 then (if b + 2 = a + 1 ∧ k < 16 then _ else J (b + 2) k) else _) = _
    rw [if_pos ⟨rfl, hk⟩, if_neg (by omega)]
    exact j0 _ _ (by omega)
  have kb : ∀ x k, b ≤ x → x < b + 74 → K x k = I x k := fun x k x1 x2 => k0 x k (by omega) (by omega) (by omega)
  obtain ⟨I1, e1, s1, s2⟩ := x5_80 (n := n) (c := c) (I := I) (W := W) (p := p) (g := g) ha hb hab hm (fun s hs => by
    rw [(h3 s hs).1.1]
    rcases hw.2.2.1 s (by unfold nSa at hs; omega) with ⟨k0, -⟩ | ⟨k1, -⟩
    · exact Or.inl k0
    · exact Or.inr k1) (nSa T) 0 mFU K (by omega) (by unfold mFU; omega) (by rw [ka 3 (by decide), h1.2.2.2.1]; unfold nSa; omega) kb
  obtain ⟨I2, e2, t1, t2⟩ := x5_111 (n := n) (c := c) (I := I) (W := W) (p := p) (g := g) ha hb hab hp (nPh T) 0 mFU I1 (by omega) (by unfold mFU; omega) (by rw [s2 _ _ (by omega), ka 4 (by decide), h1.2.2.2.2.1]; unfold nPh; omega) (fun x k x1 x2 => by rw [s2 _ _ (by omega)]; exact kb x k x1 x2)
  obtain ⟨I3, e3, u1, u2'⟩ := x5_142 (n := n) (c := c) (I := I) (W := W) (p := p) (g := g) ha hb hab hr (nRu T) 0 mFU I2 (by omega) (by unfold mFU; omega) (by rw [t2 _ _ (by omega), s2 _ _ (by omega), ka 5 (by decide), h1.2.2.2.2.2]; unfold nRu; omega) (fun x k x1 x2 => by rw [t2 _ _ (by omega), s2 _ _ (by omega)]; exact kb x k x1 x2)
  refine ⟨I3, ?_, ⟨?_, fun k hk => ?_, fun s hs => ?_, fun q hq => ?_, fun r hr2 w hw2 => ?_⟩, fun x k q => ?_⟩
  · unfold D_X5_copyFrom
    refine bdk (t5I hb) (bdk (t5P ha) (bdk (t5I hb) ?_))
    rw [eb]
    refine bdk (t5P ha) (bdk (t5I hb) ?_)
    rw [eb, eb]
    refine bdk (t5P ha) (bdk (t5I hb) ?_)
    rw [eb, eb, eb]
    refine bdk (t5P ha) (bdk (t5I hb) ?_)
    rw [eb, eb, eb, eb]
    refine bdk (t5P ha) (bdk (t5I hb) ?_)
    rw [eb, eb, eb, eb, eb]
    refine bdk (t5P ha) ?_
    rw [hJ]
    refine bdk (t5R6 hb) (bdk (t5R6 ha) (bdk (s_cpI (tH1 hb) (tH1 ha) (by decide) (by decide) (by decide)) (bdk (t5R7 hb) (bdk (t5R7 ha) (bdk (s_cpI (tH2 hb) (tH2 ha) (by decide) (by decide) (by decide)) ?_)))))
    have eK : (fun r j => if r = a + 2 ∧ j < (16 : Int).toNat then (fun r j => if r = a + 1 ∧ j < (16 : Int).toNat then J (b + 1) j else J r j) (b + 2) j else (fun r j => if r = a + 1 ∧ j < (16 : Int).toNat then J (b + 1) j else J r j) r j) = K := hK
    rw [eK]
    exact bdk e1 (bdk e2 (bdk e3 rfl))
  · rw [u2' _ _ (by omega), u2' _ _ (by omega), u2' _ _ (by omega), u2' _ _ (by omega), u2' _ _ (by omega), u2' _ _ (by omega), t2 _ _ (by omega), t2 _ _ (by omega), t2 _ _ (by omega), t2 _ _ (by omega), t2 _ _ (by omega), t2 _ _ (by omega), s2 _ _ (by omega), s2 _ _ (by omega), s2 _ _ (by omega), s2 _ _ (by omega), s2 _ _ (by omega), s2 _ _ (by omega), ka 0 (by decide), ka 1 (by decide), ka 2 (by decide), ka 3 (by decide), ka 4 (by decide), ka 5 (by decide)]
    exact h1
  · have : k < 16 := by unfold nKn at hk; omega
    rw [u2' _ _ (by omega), u2' _ _ (by omega), t2 _ _ (by omega), t2 _ _ (by omega), s2 _ _ (by omega), s2 _ _ (by omega), ka1 k this, ka2 k this]
    exact h2 k hk
  · obtain ⟨v1, v2⟩ := s1 s (by omega) hs
    rw [u2' _ _ (by omega), u2' _ _ (by omega), u2' _ _ (by omega), t2 _ _ (by omega), t2 _ _ (by omega), t2 _ _ (by omega), v1 0 (by decide), v1 1 (by decide), v1 2 (by decide)]
    refine ⟨(h3 s hs).1, fun hr k hk => ?_⟩
    have k6 : k < 6 := by
      rcases hw.2.2.1 s (by unfold nSa at hs; omega) with ⟨z, -⟩ | ⟨-, -, z, -⟩ <;> omega
    rw [u2' _ _ (by omega), u2' _ _ (by omega), t2 _ _ (by omega), t2 _ _ (by omega), (v2 k k6).1, (v2 k k6).2]
    exact (h3 s hs).2 hr k hk
  · obtain ⟨v1, v2⟩ := t1 q (by omega) hq
    rw [u2' _ _ (by omega), v1]
    refine ⟨(h4 q hq).1, fun k hk => ?_⟩
    have k6 := (hw.2.2.2.1 q (by unfold nPh at hq; omega)).1
    rw [u2' _ _ (by omega), v2 k (by omega)]
    exact (h4 q hq).2 k hk
  · rw [u1 r (by omega) hr2 w hw2]
    exact h5 r hr2 w hw2
  · unfold PT at q
    rw [u2' x k (by omega), t2 x k (by omega), s2 x k (by omega), k0 x k (by omega) (by omega) (by omega)]
end CT
