/-! THE PURE PART: what narrowing leaves is the greatest that the rules leave; clashes by it -/
def Sub (m : Nat) (S S' : Nat → Nat → Bool) : Prop := ∀ s, s < m → ∀ y, y < 1000 → S s y = true → S' s y = true
def Eqs (S S' : Nat → Nat → Bool) : Prop := ∀ s y, y < 1000 → S s y = S' s y
theorem keep_cong {S S' : Nat → Nat → Bool} {o : Op} {y : Nat} (h : ∀ z, z < 1000 → S o.2.1 z = S' o.2.1 z) : keepO S o y = keepO S' o y := by
  unfold keepO
  split
  · rfl
  · have e : ct (fun z => S o.2.1 z && decide ((y : Int) + o.2.2.1 ≤ (z : Int) ∧ (z : Int) ≤ (y : Int) + o.2.2.2)) 1000 = ct (fun z => S' o.2.1 z && decide ((y : Int) + o.2.2.1 ≤ (z : Int) ∧ (z : Int) ≤ (y : Int) + o.2.2.2)) 1000 := ct_cong fun z hz => by
      show (S o.2.1 z && _) = (S' o.2.1 z && _)
      rw [h z hz]
    rw [e]
theorem keep_mono {m : Nat} {S S' : Nat → Nat → Bool} {o : Op} {y : Nat} (ho : OpOk m o) (h : Sub m S S') (hk : keepO S o y = true) : keepO S' o y = true := by
  unfold keepO at hk ⊢
  by_cases q : o.2.1 = 99
  · rw [if_pos q] at hk ⊢; exact hk
  · rw [if_neg q] at hk ⊢
    rw [decide_eq_true_eq] at hk ⊢
    obtain ⟨z, z1, z2⟩ := ct_ex hk
    rw [Bool.and_eq_true] at z2
    have := ct_pos (p := fun z => S' o.2.1 z && decide ((y : Int) + o.2.2.1 ≤ (z : Int) ∧ (z : Int) ≤ (y : Int) + o.2.2.2)) z1 (by
      show (S' o.2.1 z && _) = true
      rw [h o.2.1 (ho.2.resolve_left q) z z1 z2.1, z2.2]
      rfl)
    omega
/-- a row of spans that no going would touch -/
def PFl (X : Nat → Nat → Bool) (l : List Op) : Prop := ∀ o ∈ l, ∀ y, y < 1000 → X o.1 y = true → keepO X o y = true
def PF (T : Td) (skip : Int) (X : Nat → Nat → Bool) : Prop := ∀ r : Nat, (r : Int) < T 2 → (r : Int) ≠ skip → PFl X (opsR T r)
theorem sub_doO {m r : Nat} {o : Op} {N : NS} {X : Nat → Nat → Bool} (ho : OpOk m o) (hx : ∀ y, y < 1000 → X o.1 y = true → keepO X o y = true) (h : Sub m X (nS N)) : Sub m X (nS (doO r o N)) := by
  intro s hs y hy hX
  show (if s = o.1 then (nS N o.1 y && keepO (nS N) o y) else nS N s y) = true
  by_cases q : s = o.1
  · subst q
    rw [if_pos rfl, h _ hs y hy hX, keep_mono ho h (hx y hy hX)]
    rfl
  · rw [if_neg q]; exact h s hs y hy hX
theorem sub_doL {m r : Nat} {X : Nat → Nat → Bool} : ∀ (l : List Op) (N : NS), (∀ o ∈ l, OpOk m o) → PFl X l → Sub m X (nS N) → Sub m X (nS (doL r l N)) := by
  intro l
  induction l with
  | nil => intro N _ _ h; exact h
  | cons o l ih =>
    intro N ho hx h
    exact ih (doO r o N) (fun q hq => ho q (List.mem_cons_of_mem _ hq)) (fun q hq => hx q (List.mem_cons_of_mem _ hq)) (sub_doO (ho o List.mem_cons_self) (hx o List.mem_cons_self) h)
theorem sub_rnd {T : Td} {skip : Int} {X : Nat → Nat → Bool} (hw : WF T) (hx : PF T skip X) : ∀ (d r : Nat) (N : NS), (r : Int) + d = T 2 → Sub (nSa T) X (nS N) → Sub (nSa T) X (nS (rndN T skip d r N)) := by
  intro d
  induction d with
  | zero => intro r N _ h; exact h
  | succ d ih =>
    intro r N hr h
    refine ih (r + 1) _ (by omega) ?_
    by_cases q : (r : Int) = skip
    · rw [if_pos q]; exact h
    · rw [if_neg q]
      exact sub_doL _ _ (opsR_ok hw (by omega)) (hx r (by omega) q) h
theorem sub_run {T : Td} {skip : Int} {X : Nat → Nat → Bool} (hw : WF T) (hx : PF T skip X) : ∀ (f k : Nat) (N : NS), Sub (nSa T) X (nS N) → Sub (nSa T) X (nS (runN T skip f k N).1) := by
  have hn := hw.1
  unfold WFn at hn
  intro f
  induction f with
  | zero => intro k N h; exact h
  | succ f ih =>
    intro k N h
    have h1 := sub_rnd (skip := skip) hw hx (nRu T) 0 (ch0 N) (by unfold nRu; omega) h
    have e2 : runN T skip (f + 1) k N = if nCh (rndN T skip (nRu T) 0 (ch0 N)) = 0 then (rndN T skip (nRu T) 0 (ch0 N), k + 1) else runN T skip f (k + 1) (rndN T skip (nRu T) 0 (ch0 N)) := rfl
    rw [e2]
    split
    · exact h1
    · exact ih _ _ h1
/-! spans only shrink -/
theorem less_doL {r : Nat} : ∀ (l : List Op) (N : NS) (s y : Nat), nS (doL r l N) s y = true → nS N s y = true := by
  intro l
  induction l with
  | nil => intro N s y h; exact h
  | cons o l ih =>
    intro N s y h
    have h1 : nS (doO r o N) s y = true := ih (doO r o N) s y h
    have h2 : (if s = o.1 then (nS N o.1 y && keepO (nS N) o y) else nS N s y) = true := h1
    by_cases q : s = o.1
    · subst q
      rw [if_pos rfl, Bool.and_eq_true] at h2
      exact h2.1
    · rw [if_neg q] at h2; exact h2
theorem less_rnd {T : Td} {skip : Int} : ∀ (d r : Nat) (N : NS) (s y : Nat), nS (rndN T skip d r N) s y = true → nS N s y = true := by
  intro d
  induction d with
  | zero => intro r N s y h; exact h
  | succ d ih =>
    intro r N s y h
    have h1 := ih (r + 1) _ s y h
    by_cases q : (r : Int) = skip
    · rw [if_pos q] at h1; exact h1
    · rw [if_neg q] at h1; exact less_doL _ _ s y h1
theorem less_run {T : Td} {skip : Int} : ∀ (f k : Nat) (N : NS) (s y : Nat), nS (runN T skip f k N).1 s y = true → nS N s y = true := by
  intro f
  induction f with
  | zero => intro k N s y h; exact h
  | succ f ih =>
    intro k N s y h
    have e2 : runN T skip (f + 1) k N = if nCh (rndN T skip (nRu T) 0 (ch0 N)) = 0 then (rndN T skip (nRu T) 0 (ch0 N), k + 1) else runN T skip f (k + 1) (rndN T skip (nRu T) 0 (ch0 N)) := rfl
    rw [e2] at h
    split at h
    · exact less_rnd (skip := skip) (nRu T) 0 (ch0 N) s y h
    · exact less_rnd (skip := skip) (nRu T) 0 (ch0 N) s y (ih _ _ s y h)
/-! a round that takes nothing leaves a row that no going would touch -/
theorem ch_doL {r : Nat} : ∀ (l : List Op) (N : NS), nCh N ≤ nCh (doL r l N) := by
  intro l
  induction l with
  | nil => intro N; exact Int.le_refl _
  | cons o l ih =>
    intro N
    have h1 := ih (doO r o N)
    have h2 : nCh (doO r o N) = nCh N + ((ct (fun y => nS N o.1 y && !keepO (nS N) o y) 1000 : Nat) : Int) := rfl
    show nCh N ≤ nCh (doL r l (doO r o N))
    omega
theorem fix_doL {r : Nat} : ∀ (l : List Op) (N : NS), nCh (doL r l N) = nCh N → Eqs (nS (doL r l N)) (nS N) ∧ PFl (nS N) l := by
  intro l
  induction l with
  | nil => intro N _; exact ⟨fun _ _ _ => rfl, fun o ho => by cases ho⟩
  | cons o l ih =>
    intro N h
    have h2 : nCh (doO r o N) = nCh N + ((ct (fun y => nS N o.1 y && !keepO (nS N) o y) 1000 : Nat) : Int) := rfl
    have h3 := ch_doL (r := r) l (doO r o N)
    have h4 : nCh (doL r l (doO r o N)) = nCh N := h
    have z : ct (fun y => nS N o.1 y && !keepO (nS N) o y) 1000 = 0 := by omega
    have kk : ∀ y, y < 1000 → nS N o.1 y = true → keepO (nS N) o y = true := fun y hy hS => by
      have := ct_0.1 z y hy
      rw [hS, Bool.true_and] at this
      simpa using this
    have eq1 : Eqs (nS (doO r o N)) (nS N) := fun s y hy => by
      show (if s = o.1 then (nS N o.1 y && keepO (nS N) o y) else nS N s y) = _
      by_cases q : s = o.1
      · subst q
        rw [if_pos rfl]
        cases q1 : nS N o.1 y
        · rfl
        · rw [kk y hy q1]; rfl
      · rw [if_neg q]
    obtain ⟨e1, e2⟩ := ih (doO r o N) (by omega)
    refine ⟨fun s y hy => (e1 s y hy).trans (eq1 s y hy), fun q hq y hy hS => ?_⟩
    rcases List.mem_cons.1 hq with rfl | hq
    · exact kk y hy hS
    · have := e2 q hq y hy (by rw [eq1 _ y hy]; exact hS)
      rw [keep_cong (fun z hz => eq1 _ z hz)] at this
      exact this
theorem PFl.cong {X Y : Nat → Nat → Bool} {l : List Op} (h : Eqs X Y) (hX : PFl X l) : PFl Y l := fun o ho y hy hY => by
  have := hX o ho y hy (by rw [h _ y hy]; exact hY)
  rw [keep_cong (fun z hz => h _ z hz)] at this
  exact this
theorem ch_rnd {T : Td} {skip : Int} : ∀ (d r : Nat) (N : NS), nCh N ≤ nCh (rndN T skip d r N) := by
  intro d
  induction d with
  | zero => intro r N; exact Int.le_refl _
  | succ d ih =>
    intro r N
    have h1 := ih (r + 1) (if (r : Int) = skip then N else doL r (opsR T r) N)
    have h2 : nCh N ≤ nCh (if (r : Int) = skip then N else doL r (opsR T r) N) := by
      split
      · exact Int.le_refl _
      · exact ch_doL _ _
    exact Int.le_trans h2 h1
theorem fix_rnd {T : Td} {skip : Int} : ∀ (d r : Nat) (N : NS), nCh (rndN T skip d r N) = nCh N → Eqs (nS (rndN T skip d r N)) (nS N) ∧ ∀ q : Nat, r ≤ q → q < r + d → (q : Int) ≠ skip → PFl (nS N) (opsR T q) := by
  intro d
  induction d with
  | zero => intro r N _; exact ⟨fun _ _ _ => rfl, fun q q1 q2 => by omega⟩
  | succ d ih =>
    intro r N h
    have h1 := ch_rnd (T := T) (skip := skip) d (r + 1) (if (r : Int) = skip then N else doL r (opsR T r) N)
    have h' : nCh (rndN T skip d (r + 1) (if (r : Int) = skip then N else doL r (opsR T r) N)) = nCh N := h
    by_cases q : (r : Int) = skip
    · rw [if_pos q] at h'
      obtain ⟨e1, e2⟩ := ih (r + 1) N h'
      refine ⟨fun s y hy => ?_, fun z z1 z2 z3 => ?_⟩
      · show nS (rndN T skip d (r + 1) (if (r : Int) = skip then N else doL r (opsR T r) N)) s y = _
        rw [if_pos q]; exact e1 s y hy
      · by_cases w : z = r
        · subst w; exact absurd q z3
        · exact e2 z (by omega) (by omega) z3
    · rw [if_neg q] at h' h1
      have h2 := ch_doL (r := r) (opsR T r) N
      obtain ⟨e1, e2⟩ := ih (r + 1) (doL r (opsR T r) N) (by omega)
      obtain ⟨g1, g2⟩ := fix_doL (r := r) (opsR T r) N (by omega)
      refine ⟨fun s y hy => ?_, fun z z1 z2 z3 => ?_⟩
      · show nS (rndN T skip d (r + 1) (if (r : Int) = skip then N else doL r (opsR T r) N)) s y = _
        rw [if_neg q]; exact (e1 s y hy).trans (g1 s y hy)
      · by_cases w : z = r
        · subst w; exact g2
        · exact (e2 z (by omega) (by omega) z3).cong g1
theorem fix_run {T : Td} {skip : Int} (hw : WF T) : ∀ (f k : Nat) (N : NS), tot (nSa T) N < f → PF T skip (nS (runN T skip f k N).1) := by
  have hn := hw.1
  unfold WFn at hn
  intro f
  induction f with
  | zero => intro k N h; omega
  | succ f ih =>
    intro k N h
    have e2 : runN T skip (f + 1) k N = if nCh (rndN T skip (nRu T) 0 (ch0 N)) = 0 then (rndN T skip (nRu T) 0 (ch0 N), k + 1) else runN T skip f (k + 1) (rndN T skip (nRu T) 0 (ch0 N)) := rfl
    have et := rnd_tot (T := T) (skip := skip) hw (nRu T) 0 (ch0 N) (by unfold nRu; omega)
    have e9 : tot (nSa T) (ch0 N) = tot (nSa T) N := rfl
    have e8 : nCh (ch0 N) = 0 := rfl
    have cm := ch_rnd (T := T) (skip := skip) (nRu T) 0 (ch0 N)
    rw [e9, e8] at et
    rw [e8] at cm
    rw [e2]
    by_cases q : nCh (rndN T skip (nRu T) 0 (ch0 N)) = 0
    · rw [if_pos q]
      obtain ⟨e1, g2⟩ := fix_rnd (T := T) (skip := skip) (nRu T) 0 (ch0 N) (by rw [q]; rfl)
      intro r hr hs
      exact (g2 r (by omega) (by unfold nRu; omega) hs).cong (fun s y hy => (e1 s y hy).symm)
    · rw [if_neg q]
      exact ih _ _ (by omega)
/-! a clash is an empty span -/
def Emp (m : Nat) (S : Nat → Nat → Bool) : Prop := ∃ s, s < m ∧ ct (S s) 1000 = 0
def CsOk (m : Nat) (N : NS) : Prop := (nCs N ≠ -2 ↔ Emp m (nS N))
theorem csA_emp (S : Nat → Nat → Bool) (i : Nat) : csA S i ≠ -2 ↔ ∃ s, s < i ∧ ct (S s) 1000 = 0 := by
  induction i with
  | zero => exact ⟨fun h => absurd rfl h, fun ⟨s, h, _⟩ => by omega⟩
  | succ i ih =>
    have e : csA S (i + 1) = if csA S i = -2 ∧ ct (S i) 1000 = 0 then (i : Int) else csA S i := rfl
    rw [e]
    by_cases q : csA S i = -2 ∧ ct (S i) 1000 = 0
    · rw [if_pos q]
      exact ⟨fun _ => ⟨i, by omega, q.2⟩, fun _ => by omega⟩
    · rw [if_neg q, ih]
      constructor
      · rintro ⟨s, s1, s2⟩; exact ⟨s, by omega, s2⟩
      · rintro ⟨s, s1, s2⟩
        by_cases w : s = i
        · subst w
          have : csA S s ≠ -2 := fun z => q ⟨z, s2⟩
          exact ih.1 this
        · exact ⟨s, by omega, s2⟩
theorem cs_doO {m r : Nat} {o : Op} {N : NS} (ho : o.1 < m) (h : CsOk m N) : CsOk m (doO r o N) := by
  have eS : ∀ s, s ≠ o.1 → nS (doO r o N) s = nS N s := fun s hs => by funext y; exact if_neg hs
  have eo : nS (doO r o N) o.1 = fun y => nS N o.1 y && keepO (nS N) o y := by funext y; exact if_pos rfl
  have sp := ct_split (nS N o.1) (keepO (nS N) o) 1000
  have ec : nCs (doO r o N) = if ct (fun y => nS N o.1 y && !keepO (nS N) o y) 1000 ≠ 0 ∧ nCs N = -2 ∧ ct (fun y => nS N o.1 y && keepO (nS N) o y) 1000 = 0 then (o.1 : Int) else nCs N := rfl
  unfold CsOk at *
  rw [ec]
  constructor
  · intro q
    split at q
    · rename_i w
      exact ⟨o.1, ho, by rw [eo]; exact w.2.2⟩
    · obtain ⟨s, s1, s2⟩ := h.1 q
      refine ⟨s, s1, ?_⟩
      by_cases w : s = o.1
      · subst w
        rw [eo]
        omega
      · rw [eS s w]; exact s2
  · rintro ⟨s, s1, s2⟩
    split
    · omega
    · rename_i w
      rw [h]
      by_cases v : s = o.1
      · subst v
        rw [eo] at s2
        by_cases z : ct (fun y => nS N o.1 y && !keepO (nS N) o y) 1000 = 0
        · exact ⟨o.1, ho, by omega⟩
        · by_cases u : nCs N = -2
          · exact absurd ⟨z, u, s2⟩ w
          · exact h.1 u
      · rw [eS s v] at s2
        exact ⟨s, s1, s2⟩
theorem csok_doL {m r : Nat} : ∀ (l : List Op) (N : NS), (∀ o ∈ l, OpOk m o) → CsOk m N → CsOk m (doL r l N) := by
  intro l
  induction l with
  | nil => intro N _ h; exact h
  | cons o l ih => intro N ho h; exact ih _ (fun q hq => ho q (List.mem_cons_of_mem _ hq)) (cs_doO (ho o List.mem_cons_self).1 h)
theorem csok_rnd {T : Td} {skip : Int} (hw : WF T) : ∀ (d r : Nat) (N : NS), (r : Int) + d = T 2 → CsOk (nSa T) N → CsOk (nSa T) (rndN T skip d r N) := by
  intro d
  induction d with
  | zero => intro r N _ h; exact h
  | succ d ih =>
    intro r N hr h
    refine ih (r + 1) _ (by omega) ?_
    split
    · exact h
    · exact csok_doL _ _ (opsR_ok hw (by omega)) h
theorem csok_run {T : Td} {skip : Int} (hw : WF T) : ∀ (f k : Nat) (N : NS), CsOk (nSa T) N → CsOk (nSa T) (runN T skip f k N).1 := by
  have hn := hw.1
  unfold WFn at hn
  intro f
  induction f with
  | zero => intro k N h; exact h
  | succ f ih =>
    intro k N h
    have h1 : CsOk (nSa T) (rndN T skip (nRu T) 0 (ch0 N)) := csok_rnd hw (nRu T) 0 (ch0 N) (by unfold nRu; omega) h
    have e2 : runN T skip (f + 1) k N = if nCh (rndN T skip (nRu T) 0 (ch0 N)) = 0 then (rndN T skip (nRu T) 0 (ch0 N), k + 1) else runN T skip f (k + 1) (rndN T skip (nRu T) 0 (ch0 N)) := rfl
    rw [e2]
    split
    · exact h1
    · exact ih _ _ h1
/-- what a run leaves -/
def left (T : Td) (skip : Int) (F : Nat → Nat → Bool) : Nat → Nat → Bool := nS (runS T skip F).1
theorem clash_iff {T : Td} {skip : Int} {F : Nat → Nat → Bool} (hw : WF T) : nCs (runS T skip F).1 ≠ -2 ↔ Emp (nSa T) (left T skip F) :=
  csok_run hw 12001 0 (startN T F) (csA_emp F (nSa T))
theorem left_sub {T : Td} {skip : Int} {F : Nat → Nat → Bool} {s y : Nat} (h : left T skip F s y = true) : F s y = true := less_run (T := T) (skip := skip) 12001 0 (startN T F) s y h
theorem left_pf {T : Td} {skip : Int} {F : Nat → Nat → Bool} (hw : WF T) : PF T skip (left T skip F) := by
  have hn := hw.1
  unfold WFn at hn
  have tr := totN_le (nSa T) F (nSa T)
  have e9 : tot (nSa T) (startN T F) = totN (nSa T) F (nSa T) := rfl
  exact fix_run hw 12001 0 (startN T F) (by rw [e9]; unfold nSa at *; omega)
theorem left_max {T : Td} {skip : Int} {F X : Nat → Nat → Bool} (hw : WF T) (hx : PF T skip X) (h : Sub (nSa T) X F) : Sub (nSa T) X (left T skip F) := sub_run hw hx 12001 0 (startN T F) h
theorem Emp.sub {m : Nat} {S S' : Nat → Nat → Bool} (h : Sub m S S') (he : Emp m S') : Emp m S := by
  obtain ⟨s, s1, s2⟩ := he
  refine ⟨s, s1, ct_0.2 fun y hy => ?_⟩
  cases q : S s y
  · rfl
  · have := h s s1 y hy q
    rw [ct_0.1 s2 y hy] at this
    cases this
/-- fewer years at the start: no fewer clashes -/
theorem clash_mono {T : Td} {skip : Int} {F F' : Nat → Nat → Bool} (hw : WF T) (h : Sub (nSa T) F F') (hc : nCs (runS T skip F').1 ≠ -2) : nCs (runS T skip F).1 ≠ -2 := by
  rw [clash_iff hw] at hc ⊢
  exact hc.sub (left_max hw (left_pf hw) (fun s hs y hy q => h s hs y hy (left_sub q)))
/-- a year pinned in what was left clashes just where it clashes when pinned at the start -/
theorem clash_pin {T : Td} {skip : Int} {F F1 F2 : Nat → Nat → Bool} (hw : WF T) (h1 : Sub (nSa T) F1 F) (h2 : Sub (nSa T) F2 F1) (h3 : ∀ s, s < nSa T → ∀ y, y < 1000 → F1 s y = true → left T skip F s y = true → F2 s y = true) : nCs (runS T skip F1).1 ≠ -2 ↔ nCs (runS T skip F2).1 ≠ -2 := by
  constructor
  · exact clash_mono hw h2
  · rw [clash_iff hw, clash_iff hw]
    refine Emp.sub (left_max hw (left_pf hw) (fun s hs y hy q => ?_))
    have a : Sub (nSa T) (left T skip F1) (left T skip F) := left_max hw (left_pf hw) (fun s hs y hy q => h1 s hs y hy (left_sub q))
    exact h3 s hs y hy (left_sub q) (a s hs y hy q)
