/-! from the owed statement's start to the pure claim -/
def lwS0 (L : Nat) (xs : Nat → Int32) : mS := ((0, 0, 0, 0), (fun r => if r = 1 then (51, L) else (0, 0)), (fun r k => if r = 1 then (xs k).toInt else 0), (fun _ _ => 0), (fun _ _ => 0))
theorem sw_cls {s : State} {a : Array Value} (hts : ∀ w ∈ lw_tbl, w.before a s = true) : ∃ (dC : Nat → ClassId) (dI : Nat → Nat → Nat), ∀ (k : Nat) (q : vw_C), vwCl[k]? = some q → u_Kn s q.1 q.2.1 q.2.2 (dC k) (dI k) := by
  have h0 : ∀ w ∈ mW0, w.before a s = true := fun w hw => hts w (List.mem_filter.mp hw).1
  have mk : ∀ {C : String} {T : u_T} {N : Nat}, (∀ w ∈ u_ws C T N, w ∈ mW0) → Cond.instantiable C N ∈ mW0 → ∃ z : ClassId × (Nat → Nat), u_Kn s C T N z.1 z.2 := by
    intro C T N h1 h2
    obtain ⟨c, i, h⟩ := u_known (n := N) h0 h1 (h0 _ h2)
    exact ⟨(c, i), h⟩
  have key : ∀ t : Nat, ∃ z : ClassId × (Nat → Nat), ∀ q, vwCl[t]? = some q → u_Kn s q.1 q.2.1 q.2.2 z.1 z.2 := by
    intro t
    match t with
    | 0 =>
      obtain ⟨z, hz⟩ := mk in_X0 (w0_in 380 (by decide +kernel) rfl)
      exact ⟨z, fun q hq => by have e := Option.some.inj hq; subst e; exact hz⟩
    | 1 =>
      obtain ⟨z, hz⟩ := mk in_X1 (w0_in 204 (by decide +kernel) rfl)
      exact ⟨z, fun q hq => by have e := Option.some.inj hq; subst e; exact hz⟩
    | 2 =>
      obtain ⟨z, hz⟩ := mk in_X2 (w0_in 332 (by decide +kernel) rfl)
      exact ⟨z, fun q hq => by have e := Option.some.inj hq; subst e; exact hz⟩
    | 3 =>
      obtain ⟨z, hz⟩ := mk in_X3 (w0_in 224 (by decide +kernel) rfl)
      exact ⟨z, fun q hq => by have e := Option.some.inj hq; subst e; exact hz⟩
    | 4 =>
      obtain ⟨z, hz⟩ := mk in_X4 (w0_in 169 (by decide +kernel) rfl)
      exact ⟨z, fun q hq => by have e := Option.some.inj hq; subst e; exact hz⟩
    | 5 =>
      obtain ⟨z, hz⟩ := mk in_X5 (w0_in 158 (by decide +kernel) rfl)
      exact ⟨z, fun q hq => by have e := Option.some.inj hq; subst e; exact hz⟩
    | 6 =>
      obtain ⟨z, hz⟩ := mk in_X6 (w0_in 445 (by decide +kernel) rfl)
      exact ⟨z, fun q hq => by have e := Option.some.inj hq; subst e; exact hz⟩
    | 7 =>
      obtain ⟨z, hz⟩ := mk in_X8 (w0_in 150 (by decide +kernel) rfl)
      exact ⟨z, fun q hq => by have e := Option.some.inj hq; subst e; exact hz⟩
    | 8 =>
      obtain ⟨z, hz⟩ := mk in_X9 (w0_in 1258 (by decide +kernel) rfl)
      exact ⟨z, fun q hq => by have e := Option.some.inj hq; subst e; exact hz⟩
    | k + 9 => exact ⟨(0, fun _ => 0), fun q hq => by simp [vwCl] at hq⟩
  obtain ⟨f, hf⟩ := Classical.axiomOfChoice key
  exact ⟨fun k => (f k).1, fun k => (f k).2, fun k q hq => hf k q hq⟩
theorem sw_arr {s : State} {a : Array Value} (hts : ∀ w ∈ lw_tbl, w.before a s = true) : ∃ aC : Nat → ClassId, ∀ (t : Nat) (ty : FieldType), mAT[t]? = some ty → mAC s (aC t) ty := by
  have mp : ∀ {ty : FieldType}, (∀ C, ty = .object C → False) → (∀ x, ty = .array x → False) → (Cond.arrayClass ty).before a s = true → ∃ c : ClassId, mAC s c ty := by
    intro ty n1 n2 h
    obtain ⟨c, k, comp, h1, h2, h3⟩ := Cond.arrayClass_spec h
    exact ⟨c, k, comp, h2, h3, h1, fun C e => (n1 C e).elim, fun x e => (n2 x e).elim⟩
  have mo : ∀ {C : String}, (Cond.arrayOver (.object C)).before a s = true → ∃ c : ClassId, mAC s c (.object C) := by
    intro C h
    obtain ⟨comp, c, k, h1, -, h3, h4, h5⟩ := Cond.arrayOver_spec h
    exact ⟨c, k, comp, h3, h4, h5, fun C2 e => by cases e; exact h1, fun x e => by cases e⟩
  have ma : ∀ {t : FieldType}, (Cond.arrayOver (.array t)).before a s = true → ∃ c : ClassId, mAC s c (.array t) := by
    intro t h
    obtain ⟨comp, c, k, h1, -, h3, h4, h5⟩ := arrayOverA_spec h
    exact ⟨c, k, comp, h3, h4, h5, fun C2 e => (by cases e), fun x e => by cases e; exact h1⟩
  have key : ∀ t : Nat, ∃ c : ClassId, ∀ ty, mAT[t]? = some ty → mAC s c ty := by
    intro t
    match t with
    | 0 =>
      obtain ⟨c, hc⟩ := mp (ty := .int) (fun C e => by cases e) (fun x e => by cases e) (hts _ (List.mem_of_getElem? (i := 203) (by decide +kernel)))
      exact ⟨c, fun ty hq => by have e := Option.some.inj hq; subst e; exact hc⟩
    | 1 =>
      obtain ⟨c, hc⟩ := mp (ty := .long) (fun C e => by cases e) (fun x e => by cases e) (hts _ (List.mem_of_getElem? (i := 443) (by decide +kernel)))
      exact ⟨c, fun ty hq => by have e := Option.some.inj hq; subst e; exact hc⟩
    | 2 =>
      obtain ⟨c, hc⟩ := mp (ty := .boolean) (fun C e => by cases e) (fun x e => by cases e) (hts _ (List.mem_of_getElem? (i := 1425) (by decide +kernel)))
      exact ⟨c, fun ty hq => by have e := Option.some.inj hq; subst e; exact hc⟩
    | 3 =>
      obtain ⟨c, hc⟩ := mp (ty := .byte) (fun C e => by cases e) (fun x e => by cases e) (hts _ (List.mem_of_getElem? (i := 948) (by decide +kernel)))
      exact ⟨c, fun ty hq => by have e := Option.some.inj hq; subst e; exact hc⟩
    | 4 =>
      obtain ⟨c, hc⟩ := mo (C := RX5) (hts _ (List.mem_of_getElem? (i := 330) (by decide +kernel)))
      exact ⟨c, fun ty hq => by have e := Option.some.inj hq; subst e; exact hc⟩
    | 5 =>
      obtain ⟨c, hc⟩ := mo (C := RX4) (hts _ (List.mem_of_getElem? (i := 164) (by decide +kernel)))
      exact ⟨c, fun ty hq => by have e := Option.some.inj hq; subst e; exact hc⟩
    | 6 =>
      obtain ⟨c, hc⟩ := mo (C := RX1) (hts _ (List.mem_of_getElem? (i := 166) (by decide +kernel)))
      exact ⟨c, fun ty hq => by have e := Option.some.inj hq; subst e; exact hc⟩
    | 7 =>
      obtain ⟨c, hc⟩ := mo (C := RX3) (hts _ (List.mem_of_getElem? (i := 168) (by decide +kernel)))
      exact ⟨c, fun ty hq => by have e := Option.some.inj hq; subst e; exact hc⟩
    | 8 =>
      obtain ⟨c, hc⟩ := ma (t := .long) (hts _ (List.mem_of_getElem? (i := 386) (by decide +kernel)))
      exact ⟨c, fun ty hq => by have e := Option.some.inj hq; subst e; exact hc⟩
    | 9 =>
      obtain ⟨c, hc⟩ := ma (t := .int) (hts _ (List.mem_of_getElem? (i := 451) (by decide +kernel)))
      exact ⟨c, fun ty hq => by have e := Option.some.inj hq; subst e; exact hc⟩
    | 10 =>
      obtain ⟨c, hc⟩ := ma (t := .boolean) (hts _ (List.mem_of_getElem? (i := 1264) (by decide +kernel)))
      exact ⟨c, fun ty hq => by have e := Option.some.inj hq; subst e; exact hc⟩
    | k + 11 => exact ⟨0, fun q hq => by simp [mAT] at hq⟩
  obtain ⟨f, hf⟩ := Classical.axiomOfChoice key
  exact ⟨f, hf⟩
theorem sw_nk {s : State} {a : Array Value} (hts : ∀ w ∈ lw_tbl, w.before a s = true) : mNk s := by
  intro w hw ho
  have h1 := hts w hw
  unfold mOth at ho
  split at ho
  · exact h1
  · exact h1
  · exact h1
  · exact h1
  · exact h1
  · cases ho
/-! the texts at the start -/
def sw_i : List Nat := [97, 103, 105, 107, 109, 111, 113, 115, 117, 119, 121, 123]
def sw_j : List Nat := [329, 336, 338, 340, 347, 349, 311, 319, 324, 342, 351, 353]
def sw_t (j : Nat) : Term := .string "CarbonDates$Reader" (sw_i.getD j 0)
def sw_F : List Cond := flatC (Jvm.Cond.and given_1 narrow_1)
theorem sw_1 : ∀ j, j < 12 → Cond.exactly (sw_t j) "java/lang/String" ∈ sw_F := by decide +kernel
theorem sw_2 : ∀ j, j < 12 → Cond.eq (.field (sw_t j) "java/lang/String" "coder" "B") (.int 0) ∈ sw_F := by decide +kernel
theorem sw_3 : ∀ j, j < 12 → Cond.arrayOf (.field (sw_t j) "java/lang/String" "value" "[B") .byte ∈ sw_F := by decide +kernel
theorem sw_4 : ∀ j, j < 12 → Cond.eq (.length (.field (sw_t j) "java/lang/String" "value" "[B")) (.int (Int32.ofNat (mStr.getD j []).length)) ∈ sw_F := by decide +kernel
theorem sw_5 : ∀ j, j < 12 → ∀ i, i < (mStr.getD j []).length → Cond.eq (.elem (.field (sw_t j) "java/lang/String" "value" "[B") (.int (Int32.ofNat i))) (.int (Int32.ofInt ((mStr.getD j []).getD i 0))) ∈ sw_F := by decide +kernel
theorem sw_6 : ∀ j, j < 12 → Cond.eq (sw_t j) (.string "CarbonDatesModel" (sw_j.getD j 0)) ∈ sw_F := by decide +kernel
def sw_w : Cond → Bool
  | .stringRef own k text => (List.range 12).any fun j => mStrT[j]? == some text && ((own == "CarbonDates$Reader" && k == sw_i.getD j 0) || (own == "CarbonDatesModel" && k == sw_j.getD j 0))
  | _ => true
theorem sw_7 : ∀ w ∈ lw_tbl, sw_w w = true := by decide +kernel
theorem sw_8 : ∀ i, i < 12 → ∀ j, j < 12 → mStrT[i]? = mStrT[j]? → i = j := by decide +kernel
theorem sw_eq {args : Array Value} {s : State} {t u : Term} {q : Nat} (h : (Cond.eq t u).before args s = true) (ht : t.eval args s none [] s = some (.ref q)) : u.eval args s none [] s = some (.ref q) := by
  cases hu : u.eval args s none [] s with
  | none => simp [Cond.before, Cond.holds, Cond.value, ht, hu] at h
  | some v =>
    cases v <;> simp [Cond.before, Cond.holds, Cond.value, ht, hu] at h
    rw [h]
theorem sw_str {s : State} {a : Array Value} (hg : ∀ c ∈ sw_F, c.before a s = true) : ∀ j : Nat, ∃ z : Nat × Nat, j < 12 → (sw_t j).eval a s none [] s = some (.ref z.1) ∧
    va_O "java/lang/String" z.1 (fun q : Nat => s.heap.size ≤ q) s s.heap ∧ va_OF "java/lang/String" "coder" "B" (.int 0) z.1 (fun q : Nat => s.heap.size ≤ q) s s.heap ∧ va_OF "java/lang/String" "value" "[B" (.ref z.2) z.1 (fun q : Nat => s.heap.size ≤ q) s s.heap ∧
    va_T .byte z.2 ((mStr.getD j []).length) (fun i => .int (Int32.ofInt ((mStr.getD j []).getD i 0))) (fun q : Nat => s.heap.size ≤ q) s s.heap := by
  intro j
  have hA : ∀ q : Nat, q < s.heap.size → ¬ (s.heap.size ≤ q) := fun q h => Nat.not_le.mpr h
  by_cases hj : j < 12
  · have hl := str_len j hj
    obtain ⟨q, c, cA, kA, q1, q2, q3, q4, q5, q6, -⟩ := Cond.exactly_spec (args := a) (first := s) (o := none) (s := s) (idx := []) (t := sw_t j) (cls := "java/lang/String") (hg _ (sw_1 j hj))
    obtain ⟨t, ht, hT⟩ := va_Tof (f := fun i => .int (Int32.ofInt ((mStr.getD j []).getD i 0))) (A := fun q : Nat => s.heap.size ≤ q) (N := (mStr.getD j []).length) (by omega) (hg _ (sw_3 j hj)) (va_eqt (hg _ (sw_4 j hj))) (fun i hi => va_eqt (hg _ (sw_5 j hj i hi))) hA
    exact ⟨(q, t), fun _ => ⟨q1, ⟨cA, q3, q5, by rw [q6]; exact q2, hA q (Array.getElem?_eq_some_iff.mp q3).1⟩, vk_OFof q1 (va_eqt (hg _ (sw_2 j hj))) hA, vk_OFof q1 ht hA, hT⟩⟩
  · exact ⟨(0, 0), fun h => absurd h hj⟩
