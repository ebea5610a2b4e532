/-! THE PURE PART: one way of true years, as told: the pairs that the rules bind, the bounds of them all, the trying -/
/-- the pairs that a rule binds: of two samples, by how much the second may be behind the first -/
def prsR (T : Td) (r : Nat) : List Op :=
  let a := (tRu T r 1).toNat
  let b := (tRu T r 2).toNat
  let n := tRu T r 3
  if tRu T r 0 = 0 then [(a, b, n, tRu T r 4)]
  else if tRu T r 0 = 1 then [(a, b, 0, 0)]
  else if tRu T r 0 = 2 then []
  else if tRu T r 0 = 3 then []
  else if tRu T r 0 = 4 then flt (fun i => flt (fun j => [(tPm T a i, tPm T b j, n, 999)]) (tPn T b) 0) (tPn T a) 0
  else flt (fun i => flt (fun j => [(tPm T a i, tPm T a j, -n, n)]) (tPn T a - (i + 1)) (i + 1)) (tPn T a) 0
def allP (T : Td) : List Op := flt (prsR T) (nRu T) 0
/-- whether the year of a sample fits a pair with those ahead -/
def fitO (Y : Nat → Int) (s : Nat) (o : Op) : Bool := if s < o.1 ∨ s < o.2.1 ∨ (o.1 ≠ s ∧ o.2.1 ≠ s) then true else decide (o.2.2.1 ≤ Y o.2.1 - Y o.1 ∧ Y o.2.1 - Y o.1 ≤ o.2.2.2)
def fitL (Y : Nat → Int) (s : Nat) (l : List Op) : Bool := l.all (fitO Y s)
def fitA (T : Td) (Y : Nat → Int) (s : Nat) : Bool := fitL Y s (allP T)
theorem fitL_app (Y : Nat → Int) (s : Nat) (l l2 : List Op) : fitL Y s (l ++ l2) = (fitL Y s l && fitL Y s l2) := List.all_append
theorem flt_in {F : Nat → List Op} {o : Op} : ∀ (d i j : Nat), i ≤ j → j < i + d → o ∈ F j → o ∈ flt F d i := by
  intro d
  induction d with
  | zero => intro i j h1 h2 _; omega
  | succ d ih =>
    intro i j h1 h2 h
    by_cases q : i = j
    · subst q; exact List.mem_append_left _ h
    · exact List.mem_append_right _ (ih (i + 1) j (by omega) (by omega) h)
/-- the bounds of all pairs together -/
abbrev MM : Type := (Nat → Nat → Int) × (Nat → Nat → Int)
def bnd (M : MM) (o : Op) : MM :=
  if o.1 < o.2.1 then (u2 M.1 o.2.1 o.1 (if M.1 o.2.1 o.1 < o.2.2.1 then o.2.2.1 else M.1 o.2.1 o.1), u2 M.2 o.2.1 o.1 (if o.2.2.2 < M.2 o.2.1 o.1 then o.2.2.2 else M.2 o.2.1 o.1))
  else if o.2.1 < o.1 then (u2 M.1 o.1 o.2.1 (if M.1 o.1 o.2.1 < -o.2.2.2 then -o.2.2.2 else M.1 o.1 o.2.1), u2 M.2 o.1 o.2.1 (if -o.2.2.1 < M.2 o.1 o.2.1 then -o.2.2.1 else M.2 o.1 o.2.1))
  else M
def bdL (M : MM) (l : List Op) : MM := l.foldl bnd M
theorem bdL_app (M : MM) (l l2 : List Op) : bdL M (l ++ l2) = bdL (bdL M l) l2 := List.foldl_append
def bd0 : MM := ((fun _ _ => -999), (fun _ _ => 999))
def bdA (T : Td) : MM := bdL bd0 (allP T)
def okB (o : Op) (s h : Nat) (d : Int) : Prop := (o.1 = h ∧ o.2.1 = s → o.2.2.1 ≤ d ∧ d ≤ o.2.2.2) ∧ (o.1 = s ∧ o.2.1 = h → o.2.2.1 ≤ -d ∧ -d ≤ o.2.2.2)
theorem bnd_ok {M : MM} {o : Op} {s h : Nat} {d : Int} (hs : h < s) : ((bnd M o).1 s h ≤ d ∧ d ≤ (bnd M o).2 s h) ↔ (M.1 s h ≤ d ∧ d ≤ M.2 s h) ∧ okB o s h d := by
  obtain ⟨a, b, l, u⟩ := o
  unfold bnd okB
  show ((if a < b then _ else _ : MM).1 s h ≤ d ∧ d ≤ (if a < b then _ else _ : MM).2 s h) ↔ _
  by_cases q1 : a < b
  · rw [if_pos q1]
    show (u2 M.1 b a _ s h ≤ d ∧ d ≤ u2 M.2 b a _ s h) ↔ _
    rw [u2_def, u2_def]
    by_cases q : s = b ∧ h = a
    · rw [if_pos q, if_pos q]
      obtain ⟨rfl, rfl⟩ := q
      show ((if M.1 s h < l then l else M.1 s h) ≤ d ∧ d ≤ (if u < M.2 s h then u else M.2 s h)) ↔ (M.1 s h ≤ d ∧ d ≤ M.2 s h) ∧ ((h = h ∧ s = s → l ≤ d ∧ d ≤ u) ∧ (h = s ∧ s = h → l ≤ -d ∧ -d ≤ u))
      split <;> split <;> omega
    · rw [if_neg q, if_neg q]
      show _ ↔ _ ∧ ((a = h ∧ b = s → l ≤ d ∧ d ≤ u) ∧ (a = s ∧ b = h → l ≤ -d ∧ -d ≤ u))
      constructor
      · intro w; exact ⟨w, fun z => absurd ⟨z.2.symm, z.1.symm⟩ q, fun z => by omega⟩
      · intro w; exact w.1
  · rw [if_neg q1]
    by_cases q2 : b < a
    · rw [if_pos q2]
      show (u2 M.1 a b _ s h ≤ d ∧ d ≤ u2 M.2 a b _ s h) ↔ _
      rw [u2_def, u2_def]
      by_cases q : s = a ∧ h = b
      · rw [if_pos q, if_pos q]
        obtain ⟨rfl, rfl⟩ := q
        show ((if M.1 s h < -u then -u else M.1 s h) ≤ d ∧ d ≤ (if -l < M.2 s h then -l else M.2 s h)) ↔ (M.1 s h ≤ d ∧ d ≤ M.2 s h) ∧ ((s = h ∧ h = s → l ≤ d ∧ d ≤ u) ∧ (s = s ∧ h = h → l ≤ -d ∧ -d ≤ u))
        split <;> split <;> omega
      · rw [if_neg q, if_neg q]
        show _ ↔ _ ∧ ((a = h ∧ b = s → l ≤ d ∧ d ≤ u) ∧ (a = s ∧ b = h → l ≤ -d ∧ -d ≤ u))
        constructor
        · intro w; exact ⟨w, fun z => by omega, fun z => absurd ⟨z.1.symm, z.2.symm⟩ q⟩
        · intro w; exact w.1
    · rw [if_neg q2]
      show _ ↔ _ ∧ ((a = h ∧ b = s → l ≤ d ∧ d ≤ u) ∧ (a = s ∧ b = h → l ≤ -d ∧ -d ≤ u))
      constructor
      · intro w; exact ⟨w, fun z => by omega, fun z => by omega⟩
      · intro w; exact w.1
theorem bdL_ok {s h : Nat} {d : Int} (hs : h < s) : ∀ (l : List Op) (M : MM), ((bdL M l).1 s h ≤ d ∧ d ≤ (bdL M l).2 s h) ↔ (M.1 s h ≤ d ∧ d ≤ M.2 s h) ∧ ∀ o ∈ l, okB o s h d := by
  intro l
  induction l with
  | nil => intro M; exact ⟨fun w => ⟨w, fun o ho => by cases ho⟩, fun w => w.1⟩
  | cons o l ih =>
    intro M
    have i1 := ih (bnd M o)
    have i2 := bnd_ok (M := M) (o := o) (d := d) hs
    constructor
    · intro w
      obtain ⟨w1, w2⟩ := i1.1 w
      obtain ⟨w3, w4⟩ := i2.1 w1
      refine ⟨w3, fun x hx => ?_⟩
      rcases List.mem_cons.1 hx with rfl | hx
      · exact w4
      · exact w2 x hx
    · intro w
      exact i1.2 ⟨i2.2 ⟨w.1, w.2 o List.mem_cons_self⟩, fun x hx => w.2 x (List.mem_cons_of_mem _ hx)⟩
/-- the bounds stay within the years -/
def MRng (M : MM) : Prop := ∀ s h, (-999 ≤ M.1 s h ∧ M.1 s h ≤ 999) ∧ -999 ≤ M.2 s h ∧ M.2 s h ≤ 999
theorem MRng0 : MRng bd0 := fun _ _ => by
  show (-999 ≤ (-999 : Int) ∧ (-999 : Int) ≤ 999) ∧ -999 ≤ (999 : Int) ∧ (999 : Int) ≤ 999
  omega
theorem MRng_bnd {M : MM} {o : Op} (h : MRng M) (hl : -999 ≤ o.2.2.1 ∧ o.2.2.1 ≤ 999) (hu : -999 ≤ o.2.2.2 ∧ o.2.2.2 ≤ 999) : MRng (bnd M o) := by
  intro s j
  obtain ⟨a, b, l, u⟩ := o
  have m1 := h s j
  unfold bnd
  show (-999 ≤ (if a < b then _ else _ : MM).1 s j ∧ (if a < b then _ else _ : MM).1 s j ≤ 999) ∧ -999 ≤ (if a < b then _ else _ : MM).2 s j ∧ (if a < b then _ else _ : MM).2 s j ≤ 999
  have hl2 : -999 ≤ l ∧ l ≤ 999 := hl
  have hu2 : -999 ≤ u ∧ u ≤ 999 := hu
  by_cases q1 : a < b
  · rw [if_pos q1]
    have m2 := h b a
    show (-999 ≤ u2 M.1 b a (if M.1 b a < l then l else M.1 b a) s j ∧ u2 M.1 b a (if M.1 b a < l then l else M.1 b a) s j ≤ 999) ∧ -999 ≤ u2 M.2 b a (if u < M.2 b a then u else M.2 b a) s j ∧ u2 M.2 b a (if u < M.2 b a then u else M.2 b a) s j ≤ 999
    rw [u2_def, u2_def]
    split
    · split <;> split <;> omega
    · exact m1
  · rw [if_neg q1]
    by_cases q2 : b < a
    · rw [if_pos q2]
      have m2 := h a b
      show (-999 ≤ u2 M.1 a b (if M.1 a b < -u then -u else M.1 a b) s j ∧ u2 M.1 a b (if M.1 a b < -u then -u else M.1 a b) s j ≤ 999) ∧ -999 ≤ u2 M.2 a b (if -l < M.2 a b then -l else M.2 a b) s j ∧ u2 M.2 a b (if -l < M.2 a b then -l else M.2 a b) s j ≤ 999
      rw [u2_def, u2_def]
      split
      · split <;> split <;> omega
      · exact m1
    · rw [if_neg q2]
      exact m1
/-- a pair of a sample with itself: where it could not be, the span is empty -/
theorem self_pair {T : Td} {F : Nat → Nat → Bool} {r s y : Nat} {o : Op} (hw : WF T) (hr : (r : Int) < T 2) (ho : o ∈ prsR T r) (h1 : o.1 = s) (h2 : o.2.1 = s) (hy : y < 1000) (hS : left T (-1) F s y = true) : o.2.2.1 ≤ 0 ∧ 0 ≤ o.2.2.2 := by
  have wr := hw.2.2.2.2 r hr
  have wp := hw.2.2.2.1
  unfold prsR at ho
  rcases wr with ⟨k0, ⟨a0, a1⟩, ⟨b0, b1⟩, hab, l0, l1, l2⟩ | ⟨k0, ⟨a0, a1⟩, ⟨b0, b1⟩, hab, l0, l1⟩ | ⟨k0, ⟨a0, a1⟩, -, ⟨l0, l1⟩, -⟩ | ⟨k0, ⟨a0, a1⟩, ⟨b0, b1⟩, hab, ⟨l0, l1⟩, -⟩ | ⟨k0, ⟨a0, a1⟩, -, ⟨l0, l1⟩, -⟩
  · rw [if_pos k0] at ho
    rcases List.mem_cons.1 ho with rfl | ho
    · have e1 : (tRu T r 1).toNat = s := h1
      have e2 : (tRu T r 2).toNat = s := h2
      omega
    · cases ho
  · rw [if_neg (by omega), if_pos k0] at ho
    rcases List.mem_cons.1 ho with rfl | ho
    · exact ⟨Int.le_refl _, Int.le_refl _⟩
    · cases ho
  · rcases k0 with k0 | k0
    · rw [if_neg (by omega), if_neg (by omega), if_pos k0] at ho
      cases ho
    · rw [if_neg (by omega), if_neg (by omega), if_neg (by omega), if_pos k0] at ho
      cases ho
  · rw [if_neg (by omega), if_neg (by omega), if_neg (by omega), if_neg (by omega), if_pos k0] at ho
    obtain ⟨i, i1, i2, hi⟩ := flt_mem _ _ ho
    obtain ⟨j, j1, j2, hj⟩ := flt_mem _ _ hi
    rcases List.mem_cons.1 hj with rfl | hj
    · have e1 : tPm T (tRu T r 1).toNat i = s := h1
      have e2 : tPm T (tRu T r 2).toNat j = s := h2
      refine ⟨?_, by show (0 : Int) ≤ 999; omega⟩
      show tRu T r 3 ≤ 0
      by_cases q : 0 < tRu T r 3
      · exfalso
        have hin : ((s, 99, 1000, -1) : Op) ∈ opsR T r := by
          unfold opsR
          rw [if_neg (by omega), if_neg (by omega), if_neg (by omega), if_neg (by omega), if_pos k0]
          refine flt_in _ _ i i1 i2 (flt_in _ _ j j1 j2 ?_)
          unfold ordO
          rw [e1, e2, if_pos rfl, if_pos q]
          exact List.mem_cons_self
        have hp := left_pf (F := F) (skip := -1) hw r hr (by omega) _ hin y hy hS
        have hk : keepO (left T (-1) F) (s, 99, 1000, -1) y = decide ((1000 : Int) ≤ (y : Int) ∧ (y : Int) ≤ -1) := if_pos rfl
        rw [hk, decide_eq_true_eq] at hp
        omega
      · omega
    · cases hj
  · rw [if_neg (by omega), if_neg (by omega), if_neg (by omega), if_neg (by omega), if_neg (by omega)] at ho
    obtain ⟨i, i1, i2, hi⟩ := flt_mem _ _ ho
    obtain ⟨j, j1, j2, hj⟩ := flt_mem _ _ hi
    rcases List.mem_cons.1 hj with rfl | hj
    · show -tRu T r 3 ≤ 0 ∧ 0 ≤ tRu T r 3
      omega
    · cases hj
theorem allP_mem {T : Td} {o : Op} (h : o ∈ allP T) : ∃ r, r < nRu T ∧ o ∈ prsR T r := by
  obtain ⟨r, r1, r2, hr⟩ := flt_mem _ _ h
  exact ⟨r, by omega, hr⟩
/-- the bounds of all pairs say just what the pairs say one by one -/
theorem fit_bnd {T : Td} {F : Nat → Nat → Bool} {Y : Nat → Int} {s y : Nat} (hw : WF T) (hy : y < 1000) (hS : left T (-1) F s y = true) (hY : ∀ j, j ≤ s → 0 ≤ Y j ∧ Y j ≤ 999) :
    (∀ h, h < s → (bdA T).1 s h ≤ Y s - Y h ∧ Y s - Y h ≤ (bdA T).2 s h) ↔ fitA T Y s = true := by
  unfold fitA fitL
  rw [List.all_eq_true]
  constructor
  · intro w o ho
    unfold fitO
    by_cases q : s < o.1 ∨ s < o.2.1 ∨ (o.1 ≠ s ∧ o.2.1 ≠ s)
    · rw [if_pos q]
    · rw [if_neg q, decide_eq_true_eq]
      by_cases q1 : o.1 = s
      · by_cases q2 : o.2.1 = s
        · obtain ⟨r, r1, r2⟩ := allP_mem ho
          have := self_pair (F := F) hw (by unfold nRu at r1; omega) r2 q1 q2 hy hS
          rw [q1, q2]
          omega
        · have hb := ((bdL_ok (d := Y s - Y o.2.1) (by omega : o.2.1 < s) (allP T) bd0).1 (w o.2.1 (by omega))).2 o ho
          have := hb.2 ⟨q1, rfl⟩
          rw [q1]
          omega
      · have q2 : o.2.1 = s := by omega
        have hb := ((bdL_ok (d := Y s - Y o.1) (by omega : o.1 < s) (allP T) bd0).1 (w o.1 (by omega))).2 o ho
        have := hb.1 ⟨rfl, q2⟩
        rw [q2]
        omega
  · intro w h hh
    refine (bdL_ok hh (allP T) bd0).2 ⟨?_, fun o ho => ⟨fun z => ?_, fun z => ?_⟩⟩
    · have y1 := hY s (Nat.le_refl _)
      have y2 := hY h (by omega)
      show (-999 : Int) ≤ _ ∧ _ ≤ (999 : Int)
      omega
    · have := w o ho
      unfold fitO at this
      rw [if_neg (by omega), decide_eq_true_eq, z.1, z.2] at this
      exact this
    · have := w o ho
      unfold fitO at this
      rw [if_neg (by omega), decide_eq_true_eq, z.1, z.2] at this
      omega
/-- the trying: a is one more than the sample that stands; 0: none is left -/
def trN (S : Nat → Nat → Bool) (m : Nat) (fit : (Nat → Int) → Nat → Bool) : Nat → Nat → (Nat → Int) → Nat → Int × Nat × (Nat → Int)
  | 0, _, Y, k => (-3, k, Y)
  | f + 1, a, Y, k =>
    if a = 0 then (0, k, Y) else if m < a then (1, k, Y)
    else if nx (S (a - 1)) (Y (a - 1) + 1).toNat = 1000 then trN S m fit f (a - 1) (fun j => if j = a - 1 then -1 else Y j) k
    else if k = 20000 then (-2, k, Y)
    else if fit (fun j => if j = a - 1 then (nx (S (a - 1)) (Y (a - 1) + 1).toNat : Int) else Y j) (a - 1) = true then trN S m fit f (a + 1) (fun j => if j = a - 1 then (nx (S (a - 1)) (Y (a - 1) + 1).toNat : Int) else Y j) (k + 1)
    else trN S m fit f a (fun j => if j = a - 1 then (nx (S (a - 1)) (Y (a - 1) + 1).toNat : Int) else Y j) (k + 1)
def trS (T : Td) : Int × Nat × (Nat → Int) := trN (nS (runS T (-1) (FS T)).1) (nSa T) (fitA T) 60000 1 (fun _ => -1) 0
/-- what is so at every step of the trying -/
def TrI (m g a : Nat) (Y : Nat → Int) (k : Nat) : Prop := a ≤ m + 1 ∧ k ≤ 20000 ∧ 60000 + a ≤ 2 * k + 1 + g ∧ (∀ j, j + 1 < a → 0 ≤ Y j ∧ Y j ≤ 999) ∧ (∀ j, -1 ≤ Y j ∧ Y j ≤ 999) ∧ ∀ j, a ≤ j → Y j = -1
theorem TrI.g {m g a k : Nat} {Y : Nat → Int} (h : TrI m g a Y k) : 0 < g := by obtain ⟨_, h2, h3, _⟩ := h; omega
theorem TrI.back {m g a k : Nat} {Y : Nat → Int} (h : TrI m (g + 1) a Y k) (ha : a ≠ 0) : TrI m g (a - 1) (fun j => if j = a - 1 then -1 else Y j) k := by
  obtain ⟨h1, h2, h3, h4, h5, h6⟩ := h
  refine ⟨by omega, h2, by omega, fun j hj => ?_, fun j => ?_, fun j hj => ?_⟩
  · show 0 ≤ (if j = a - 1 then -1 else Y j) ∧ (if j = a - 1 then -1 else Y j) ≤ 999
    rw [if_neg (by omega)]
    exact h4 j (by omega)
  · show -1 ≤ (if j = a - 1 then -1 else Y j) ∧ (if j = a - 1 then -1 else Y j) ≤ 999
    split
    · omega
    · exact h5 j
  · show (if j = a - 1 then -1 else Y j) = -1
    by_cases q : j = a - 1
    · rw [if_pos q]
    · rw [if_neg q]; exact h6 j (by omega)
theorem TrI.stay {m g a k : Nat} {v : Int} {Y : Nat → Int} (h : TrI m (g + 1) a Y k) (ha : a ≠ 0) (hk : k ≠ 20000) (hv : 0 ≤ v ∧ v ≤ 999) : TrI m g a (fun j => if j = a - 1 then v else Y j) (k + 1) := by
  obtain ⟨h1, h2, h3, h4, h5, h6⟩ := h
  refine ⟨by omega, by omega, by omega, fun j hj => ?_, fun j => ?_, fun j hj => ?_⟩
  · show 0 ≤ (if j = a - 1 then v else Y j) ∧ (if j = a - 1 then v else Y j) ≤ 999
    rw [if_neg (by omega)]
    exact h4 j (by omega)
  · show -1 ≤ (if j = a - 1 then v else Y j) ∧ (if j = a - 1 then v else Y j) ≤ 999
    split
    · omega
    · exact h5 j
  · show (if j = a - 1 then v else Y j) = -1
    rw [if_neg (by omega)]; exact h6 j (by omega)
theorem TrI.go {m g a k : Nat} {v : Int} {Y : Nat → Int} (h : TrI m (g + 1) a Y k) (ha : a ≠ 0) (hm : a ≤ m) (hk : k ≠ 20000) (hv : 0 ≤ v ∧ v ≤ 999) : TrI m g (a + 1) (fun j => if j = a - 1 then v else Y j) (k + 1) := by
  obtain ⟨h1, h2, h3, h4, h5, h6⟩ := h
  refine ⟨by omega, by omega, by omega, fun j hj => ?_, fun j => ?_, fun j hj => ?_⟩
  · show 0 ≤ (if j = a - 1 then v else Y j) ∧ (if j = a - 1 then v else Y j) ≤ 999
    by_cases q : j = a - 1
    · rw [if_pos q]; exact hv
    · rw [if_neg q]; exact h4 j (by omega)
  · show -1 ≤ (if j = a - 1 then v else Y j) ∧ (if j = a - 1 then v else Y j) ≤ 999
    split
    · omega
    · exact h5 j
  · show (if j = a - 1 then v else Y j) = -1
    rw [if_neg (by omega)]; exact h6 j (by omega)
theorem TrI.st {m : Nat} : TrI m 60000 1 (fun _ => -1) 0 := ⟨by omega, by omega, by omega, fun j hj => by omega, fun j => ⟨by show (-1 : Int) ≤ -1; omega, by show (-1 : Int) ≤ 999; omega⟩, fun _ _ => rfl⟩
