/-! THE PURE PART: what is told, and what the rules leave of it, as told of sets of years -/
abbrev Td : Type := Nat → Int
abbrev NS : Type := (Nat → Nat → Bool) × (Nat → Int) × Int × Int × Int
abbrev nS (N : NS) : Nat → Nat → Bool := N.1
abbrev nG (N : NS) : Nat → Int := N.2.1
abbrev nCr (N : NS) : Int := N.2.2.1
abbrev nCs (N : NS) : Int := N.2.2.2.1
abbrev nCh (N : NS) : Int := N.2.2.2.2
/-- some years of one sample go, by a rule -/
def cutN (r s : Nat) (keep : Nat → Bool) (N : NS) : NS :=
  ((fun t y => if t = s then (nS N s y && keep y) else nS N t y), (fun q => if q = r then nG N q + ((ct (fun y => nS N s y && !keep y) 1000 : Nat) : Int) else nG N q),
    (if ct (fun y => nS N s y && !keep y) 1000 ≠ 0 ∧ nCs N = -2 ∧ ct (fun y => nS N s y && keep y) 1000 = 0 then (r : Int) else nCr N),
    (if ct (fun y => nS N s y && !keep y) 1000 ≠ 0 ∧ nCs N = -2 ∧ ct (fun y => nS N s y && keep y) 1000 = 0 then (s : Int) else nCs N),
    nCh N + ((ct (fun y => nS N s y && !keep y) 1000 : Nat) : Int))
/-- one going: of a sample (of), by another one (by; 99: by the years alone), from so much to so much -/
abbrev Op : Type := Nat × Nat × Int × Int
def keepO (S : Nat → Nat → Bool) (o : Op) (y : Nat) : Bool :=
  if o.2.1 = 99 then decide (o.2.2.1 ≤ (y : Int) ∧ (y : Int) ≤ o.2.2.2) else decide (ct (fun z => S o.2.1 z && decide ((y : Int) + o.2.2.1 ≤ (z : Int) ∧ (z : Int) ≤ (y : Int) + o.2.2.2)) 1000 ≠ 0)
def doO (r : Nat) (o : Op) (N : NS) : NS := cutN r o.1 (keepO (nS N) o) N
def both (a b : Nat) (l h : Int) : List Op := [(b, a, -h, -l), (a, b, l, h)]
def tRu (T : Td) (r w : Nat) : Int := T (3 + 5 * r + w)
def tSa (T : Td) (s w : Nat) : Int := T (123 + 15 * s + w)
def tKy (T : Td) (k : Nat) : Int := T (310 + k)
def tKa (T : Td) (k : Nat) : Int := T (330 + k)
def tPn (T : Td) (p : Nat) : Nat := (T (350 + p)).toNat
def tPm (T : Td) (p k : Nat) : Nat := (T (360 + 6 * p + k)).toNat
def nSa (T : Td) : Nat := (T 304).toNat
def nRu (T : Td) : Nat := (T 2).toNat
def nPh (T : Td) : Nat := (T 305).toNat
def nKn (T : Td) : Nat := (T 303).toNat
def ordO (a b : Nat) (n : Int) : List Op := if a = b then (if 0 < n then [(a, 99, 1000, -1)] else []) else both a b n 999
def flt (F : Nat → List Op) : Nat → Nat → List Op
  | 0, _ => []
  | d + 1, i => F i ++ flt F d (i + 1)
/-- the goings of a rule, as they stand -/
def opsR (T : Td) (r : Nat) : List Op :=
  let a := (tRu T r 1).toNat
  let b := (tRu T r 2).toNat
  let n := tRu T r 3
  if tRu T r 0 = 0 then both a b n (tRu T r 4)
  else if tRu T r 0 = 1 then both a b 0 0
  else if tRu T r 0 = 2 then [(a, 99, n, 999)]
  else if tRu T r 0 = 3 then [(a, 99, 0, n)]
  else if tRu T r 0 = 4 then flt (fun i => flt (fun j => ordO (tPm T a i) (tPm T b j) n) (tPn T b) 0) (tPn T a) 0
  else flt (fun i => flt (fun j => both (tPm T a i) (tPm T a j) (-n) n) (tPn T a - (i + 1)) (i + 1)) (tPn T a) 0
def doL (r : Nat) (l : List Op) (N : NS) : NS := l.foldl (fun N o => doO r o N) N
theorem doL_app (r : Nat) (l l2 : List Op) (N : NS) : doL r (l ++ l2) N = doL r l2 (doL r l N) := List.foldl_append
/-- a round from a rule on; skip: a rule that isn't there (or none) -/
def rndN (T : Td) (skip : Int) : Nat → Nat → NS → NS
  | 0, _, N => N
  | d + 1, r, N => rndN T skip d (r + 1) (if (r : Int) = skip then N else doL r (opsR T r) N)
def ch0 (N : NS) : NS := (nS N, nG N, nCr N, nCs N, 0)
def runN (T : Td) (skip : Int) : Nat → Nat → NS → NS × Nat
  | 0, k, N => (N, k)
  | f + 1, k, N => if nCh (rndN T skip (nRu T) 0 (ch0 N)) = 0 then (rndN T skip (nRu T) 0 (ch0 N), k + 1) else runN T skip f (k + 1) (rndN T skip (nRu T) 0 (ch0 N))
/-- the first sample without years of those ahead of one -/
def csA (S : Nat → Nat → Bool) : Nat → Int
  | 0 => -2
  | i + 1 => if csA S i = -2 ∧ ct (S i) 1000 = 0 then (i : Int) else csA S i
def crA (S : Nat → Nat → Bool) (i : Nat) : Int := if csA S i = -2 then -2 else -1
def startN (T : Td) (S : Nat → Nat → Bool) : NS := (S, (fun _ => 0), crA S (nSa T), csA S (nSa T), 0)
def runS (T : Td) (skip : Int) (S : Nat → Nat → Bool) : NS × Nat := runN T skip 12001 0 (startN T S)
/-- all years that are left -/
def totN (m : Nat) (S : Nat → Nat → Bool) : Nat → Nat
  | 0 => 0
  | k + 1 => totN m S k + ct (S k) 1000
def tot (m : Nat) (N : NS) : Nat := totN m (nS N) m
theorem totN_le (m : Nat) (S : Nat → Nat → Bool) (k : Nat) : totN m S k ≤ 1000 * k := by
  induction k with
  | zero => exact Nat.le_refl _
  | succ k ih => have := ct_le (S k) 1000; show totN m S k + ct (S k) 1000 ≤ _; omega
theorem totN_cong {m : Nat} {S S' : Nat → Nat → Bool} {k : Nat} (h : ∀ s, s < k → ct (S s) 1000 = ct (S' s) 1000) : totN m S k = totN m S' k := by
  induction k with
  | zero => rfl
  | succ k ih => show totN m S k + _ = totN m S' k + _; rw [ih (fun s hs => h s (by omega)), h k (by omega)]
theorem tot_cut {m r s : Nat} {keep : Nat → Bool} {N : NS} (hs : s < m) : tot m (cutN r s keep N) + ct (fun y => nS N s y && !keep y) 1000 = tot m N := by
  have e : ∀ k, k ≤ m → totN m (nS (cutN r s keep N)) k + (if s < k then ct (fun y => nS N s y && !keep y) 1000 else 0) = totN m (nS N) k := by
    intro k
    induction k with
    | zero => intro _; rw [if_neg (by omega)]; rfl
    | succ k ih =>
      intro hk
      have i1 := ih (by omega)
      show totN m (nS (cutN r s keep N)) k + ct (nS (cutN r s keep N) k) 1000 + _ = totN m (nS N) k + ct (nS N k) 1000
      by_cases q : k = s
      · subst q
        rw [if_neg (by omega)] at i1
        rw [if_pos (by omega)]
        have e1 : ct (nS (cutN r k keep N) k) 1000 = ct (fun y => nS N k y && keep y) 1000 := ct_cong fun y _ => if_pos rfl
        have e2 := ct_split (nS N k) keep 1000
        omega
      · have e1 : ct (nS (cutN r s keep N) k) 1000 = ct (nS N k) 1000 := ct_cong fun y _ => if_neg q
        rw [e1]
        by_cases q2 : s < k
        · rw [if_pos q2] at i1
          rw [if_pos (by omega)]
          omega
        · rw [if_neg q2] at i1
          rw [if_neg (by omega)]
          omega
  have := e m (Nat.le_refl _)
  rw [if_pos hs] at this
  exact this
/-- what is gone and what is left are never more than there was -/
def Ninv (m : Nat) (N : NS) : Prop := (∀ r, 0 ≤ nG N r ∧ nG N r + (tot m N : Int) ≤ 12000) ∧ 0 ≤ nCh N ∧ nCh N + (tot m N : Int) ≤ 12000 ∧ (nCs N = -2 ∨ 0 ≤ nCs N)
theorem Ninv.cut {m r s : Nat} {keep : Nat → Bool} {N : NS} (hs : s < m) (h : Ninv m N) : Ninv m (cutN r s keep N) := by
  have e := tot_cut (r := r) (keep := keep) (N := N) hs
  obtain ⟨h1, h2, h3, h4⟩ := h
  refine ⟨fun q => ?_, ?_, ?_, ?_⟩
  · have := h1 q
    show 0 ≤ (if q = r then _ else _) ∧ (if q = r then _ else _) + _ ≤ _
    split <;> omega
  · show 0 ≤ nCh N + _
    omega
  · show nCh N + _ + _ ≤ _
    omega
  · have e2 : nCs (cutN r s keep N) = if ct (fun y => nS N s y && !keep y) 1000 ≠ 0 ∧ nCs N = -2 ∧ ct (fun y => nS N s y && keep y) 1000 = 0 then (s : Int) else nCs N := rfl
    rw [e2]
    split
    · right; omega
    · exact h4
theorem ct_win {S : Nat → Bool} {lo hi : Nat} (h1 : lo ≤ hi + 1) (h2 : hi < 1000) (y l h : Int) (hl : ∀ z : Nat, z < 1000 → (y + l ≤ (z : Int) ∧ (z : Int) ≤ y + h ↔ lo ≤ z ∧ z ≤ hi)) : (ct S lo < ct S (hi + 1)) ↔ ct (fun z => S z && decide (y + l ≤ (z : Int) ∧ (z : Int) ≤ y + h)) 1000 ≠ 0 := by
  have e : hi + 1 = lo + (hi + 1 - lo) := by omega
  constructor
  · intro q
    rw [e, ct_add] at q
    obtain ⟨k, k1, k2⟩ := ct_ex (p := fun k => S (lo + k)) (n := hi + 1 - lo) (by omega)
    have := ct_pos (p := fun z => S z && decide (y + l ≤ (z : Int) ∧ (z : Int) ≤ y + h)) (n := 1000) (k := lo + k) (by omega) (by
      show (S (lo + k) && _) = true
      rw [k2, Bool.true_and, decide_eq_true_eq, hl _ (by omega)]
      omega)
    omega
  · intro q
    obtain ⟨z, z1, z2⟩ := ct_ex q
    rw [Bool.and_eq_true, decide_eq_true_eq, hl z z1] at z2
    rw [e, ct_add]
    have := ct_pos (p := fun k => S (lo + k)) (n := hi + 1 - lo) (k := z - lo) (by omega) (by
      show S (lo + (z - lo)) = true
      rw [show lo + (z - lo) = z by omega]
      exact z2.1)
    omega
def WFp (T : Td) (p : Nat) : Prop := (1 ≤ T (350 + p) ∧ T (350 + p) ≤ 6) ∧ (∀ k : Nat, (k : Int) < T (350 + p) → 0 ≤ T (360 + 6 * p + k) ∧ T (360 + 6 * p + k) < T 304) ∧ ∀ k j : Nat, k < j → (j : Int) < T (350 + p) → T (360 + 6 * p + k) ≠ T (360 + 6 * p + j)
def WFr (T : Td) (r : Nat) : Prop :=
  (tRu T r 0 = 0 ∧ (0 ≤ tRu T r 1 ∧ tRu T r 1 < T 304) ∧ (0 ≤ tRu T r 2 ∧ tRu T r 2 < T 304) ∧ tRu T r 1 ≠ tRu T r 2 ∧ 0 ≤ tRu T r 3 ∧ tRu T r 3 ≤ tRu T r 4 ∧ tRu T r 4 ≤ 999) ∨
  (tRu T r 0 = 1 ∧ (0 ≤ tRu T r 1 ∧ tRu T r 1 < T 304) ∧ (0 ≤ tRu T r 2 ∧ tRu T r 2 < T 304) ∧ tRu T r 1 ≠ tRu T r 2 ∧ tRu T r 3 = 0 ∧ tRu T r 4 = -1) ∨
  ((tRu T r 0 = 2 ∨ tRu T r 0 = 3) ∧ (0 ≤ tRu T r 1 ∧ tRu T r 1 < T 304) ∧ tRu T r 2 = -1 ∧ (0 ≤ tRu T r 3 ∧ tRu T r 3 ≤ 999) ∧ tRu T r 4 = -1) ∨
  (tRu T r 0 = 4 ∧ (0 ≤ tRu T r 1 ∧ tRu T r 1 < T 305) ∧ (0 ≤ tRu T r 2 ∧ tRu T r 2 < T 305) ∧ tRu T r 1 ≠ tRu T r 2 ∧ (0 ≤ tRu T r 3 ∧ tRu T r 3 ≤ 999) ∧ tRu T r 4 = -1) ∨
  (tRu T r 0 = 5 ∧ (0 ≤ tRu T r 1 ∧ tRu T r 1 < T 305) ∧ tRu T r 2 = -1 ∧ (0 ≤ tRu T r 3 ∧ tRu T r 3 ≤ 999) ∧ tRu T r 4 = -1)
def WFs (T : Td) (s : Nat) : Prop :=
  (tSa T s 0 = 0 ∧ (0 ≤ tSa T s 1 ∧ tSa T s 1 ≤ 9999) ∧ 0 ≤ tSa T s 2 ∧ tSa T s 2 ≤ 999) ∨
  (tSa T s 0 = 1 ∧ (0 ≤ tSa T s 1 ∧ tSa T s 1 ≤ 999) ∧ (1 ≤ tSa T s 2 ∧ tSa T s 2 ≤ 6) ∧ ∀ k : Nat, (k : Int) < tSa T s 2 → (0 ≤ tSa T s (3 + k) ∧ tSa T s (3 + k) ≤ 300) ∧ 0 ≤ tSa T s (9 + k) ∧ tSa T s (9 + k) ≤ 9999)
def WFk (T : Td) : Prop := (∀ k : Nat, (k : Int) < T 303 → (0 ≤ T (310 + k) ∧ T (310 + k) ≤ 999) ∧ 0 ≤ T (330 + k) ∧ T (330 + k) ≤ 9999) ∧ ∀ k : Nat, (k : Int) + 1 < T 303 → T (310 + k) < T (310 + k + 1)
def WFn (T : Td) : Prop := (1 ≤ T 0 ∧ T 0 ≤ 3) ∧ (-500 ≤ T 1 ∧ T 1 ≤ 500) ∧ (0 ≤ T 2 ∧ T 2 ≤ 24) ∧ (2 ≤ T 303 ∧ T 303 ≤ 16) ∧ (0 ≤ T 304 ∧ T 304 ≤ 12) ∧ 0 ≤ T 305 ∧ T 305 ≤ 4
def WF (T : Td) : Prop := WFn T ∧ WFk T ∧ (∀ s : Nat, (s : Int) < T 304 → WFs T s) ∧ (∀ p : Nat, (p : Int) < T 305 → WFp T p) ∧ ∀ r : Nat, (r : Int) < T 2 → WFr T r
theorem csA_rng (S : Nat → Nat → Bool) (i : Nat) : csA S i = -2 ∨ 0 ≤ csA S i := by
  induction i with
  | zero => exact Or.inl rfl
  | succ i ih =>
    have e : csA S (i + 1) = if csA S i = -2 ∧ ct (S i) 1000 = 0 then (i : Int) else csA S i := rfl
    rw [e]
    split
    · right; omega
    · exact ih
theorem crA_s (S : Nat → Nat → Bool) (i : Nat) : crA S (i + 1) = if csA S i = -2 ∧ ct (S i) 1000 = 0 then -1 else crA S i := by
  have e : csA S (i + 1) = if csA S i = -2 ∧ ct (S i) 1000 = 0 then (i : Int) else csA S i := rfl
  unfold crA
  rw [e]
  by_cases q : csA S i = -2 ∧ ct (S i) 1000 = 0
  · rw [if_pos q, if_pos q, if_neg (by omega)]
  · rw [if_neg q, if_neg q]
theorem flt_mem {F : Nat → List Op} {o : Op} : ∀ d i, o ∈ flt F d i → ∃ j, i ≤ j ∧ j < i + d ∧ o ∈ F j := by
  intro d
  induction d with
  | zero => intro i h; cases h
  | succ d ih =>
    intro i h
    rcases List.mem_append.1 h with h | h
    · exact ⟨i, by omega, by omega, h⟩
    · obtain ⟨j, h1, h2, h3⟩ := ih (i + 1) h
      exact ⟨j, by omega, by omega, h3⟩
/-- an operation on samples that there are -/
def OpOk (m : Nat) (o : Op) : Prop := o.1 < m ∧ (o.2.1 = 99 ∨ o.2.1 < m)
theorem both_ok {m a b : Nat} {l h : Int} (ha : a < m) (hb : b < m) : ∀ o ∈ both a b l h, OpOk m o := by
  intro o ho
  unfold both at ho
  rcases List.mem_cons.1 ho with rfl | ho
  · exact ⟨hb, Or.inr ha⟩
  · rcases List.mem_cons.1 ho with rfl | ho
    · exact ⟨ha, Or.inr hb⟩
    · cases ho
theorem ordO_ok {m a b : Nat} {k : Int} (ha : a < m) (hb : b < m) : ∀ o ∈ ordO a b k, OpOk m o := by
  intro o ho
  unfold ordO at ho
  split at ho
  · split at ho
    · rcases List.mem_cons.1 ho with rfl | ho
      · exact ⟨ha, Or.inl rfl⟩
      · cases ho
    · cases ho
  · exact both_ok ha hb o ho
theorem opsR_ok {T : Td} {r : Nat} (hw : WF T) (hr : (r : Int) < T 2) : ∀ o ∈ opsR T r, OpOk (nSa T) o := by
  have wr := hw.2.2.2.2 r hr
  have wp := hw.2.2.2.1
  have mem : ∀ p k : Nat, (p : Int) < T 305 → (k : Int) < T (350 + p) → tPm T p k < nSa T := fun p k hp hk => by
    have := (wp p hp).2.1 k hk
    unfold tPm nSa
    omega
  have pn : ∀ p k : Nat, k < tPn T p → (k : Int) < T (350 + p) := fun p k hk => by unfold tPn at hk; omega
  intro o ho
  unfold opsR at ho
  rcases wr with ⟨k0, ⟨a0, a1⟩, ⟨b0, b1⟩, hab, l0, l1, l2⟩ | ⟨k0, ⟨a0, a1⟩, ⟨b0, b1⟩, hab, l0, l1⟩ | ⟨k0, ⟨a0, a1⟩, -, ⟨l0, l1⟩, -⟩ | ⟨k0, ⟨a0, a1⟩, ⟨b0, b1⟩, hab, ⟨l0, l1⟩, -⟩ | ⟨k0, ⟨a0, a1⟩, -, ⟨l0, l1⟩, -⟩
  · rw [if_pos k0] at ho
    exact both_ok (by unfold nSa; omega) (by unfold nSa; omega) o ho
  · rw [if_neg (by omega), if_pos k0] at ho
    exact both_ok (by unfold nSa; omega) (by unfold nSa; omega) o ho
  · rcases k0 with k0 | k0
    · rw [if_neg (by omega), if_neg (by omega), if_pos k0] at ho
      rcases List.mem_cons.1 ho with rfl | ho
      · exact ⟨by show (tRu T r 1).toNat < nSa T; unfold nSa; omega, Or.inl rfl⟩
      · cases ho
    · rw [if_neg (by omega), if_neg (by omega), if_neg (by omega), if_pos k0] at ho
      rcases List.mem_cons.1 ho with rfl | ho
      · exact ⟨by show (tRu T r 1).toNat < nSa T; unfold nSa; omega, Or.inl rfl⟩
      · cases ho
  · rw [if_neg (by omega), if_neg (by omega), if_neg (by omega), if_neg (by omega), if_pos k0] at ho
    obtain ⟨i, i1, i2, hi⟩ := flt_mem _ _ ho
    obtain ⟨j, j1, j2, hj⟩ := flt_mem _ _ hi
    exact ordO_ok (mem _ _ (by omega) (pn _ _ (by omega))) (mem _ _ (by omega) (pn _ _ (by omega))) o hj
  · rw [if_neg (by omega), if_neg (by omega), if_neg (by omega), if_neg (by omega), if_neg (by omega)] at ho
    obtain ⟨i, i1, i2, hi⟩ := flt_mem _ _ ho
    obtain ⟨j, j1, j2, hj⟩ := flt_mem _ _ hi
    exact both_ok (mem _ _ (by omega) (pn _ _ (by omega))) (mem _ _ (by omega) (pn _ _ (by omega))) o hj
theorem doL_tot {m r : Nat} : ∀ (l : List Op) (N : NS), (∀ o ∈ l, OpOk m o) → nCh (doL r l N) + (tot m (doL r l N) : Int) = nCh N + (tot m N : Int) := by
  intro l
  induction l with
  | nil => intro N _; rfl
  | cons o l ih =>
    intro N h
    have h1 := ih (doO r o N) (fun o ho => h o (List.mem_cons_of_mem _ ho))
    have e := tot_cut (r := r) (keep := keepO (nS N) o) (N := N) (h o List.mem_cons_self).1
    have e2 : nCh (doO r o N) = nCh N + ((ct (fun y => nS N o.1 y && !keepO (nS N) o y) 1000 : Nat) : Int) := rfl
    have e3 : tot m (doO r o N) = tot m (cutN r o.1 (keepO (nS N) o) N) := rfl
    show nCh (doL r l (doO r o N)) + (tot m (doL r l (doO r o N)) : Int) = _
    rw [h1, e2, e3]
    omega
theorem rnd_tot {T : Td} {skip : Int} (hw : WF T) : ∀ (d r : Nat) (N : NS), (r : Int) + d = T 2 → nCh (rndN T skip d r N) + (tot (nSa T) (rndN T skip d r N) : Int) = nCh N + (tot (nSa T) N : Int) := by
  intro d
  induction d with
  | zero => intro r N _; rfl
  | succ d ih =>
    intro r N hr
    show nCh (rndN T skip d (r + 1) _) + (tot (nSa T) (rndN T skip d (r + 1) _) : Int) = _
    rw [ih (r + 1) _ (by omega)]
    split
    · rfl
    · exact doL_tot _ _ (opsR_ok hw (by omega))
