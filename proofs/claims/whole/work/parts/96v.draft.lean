/-! THE PURE PART: what a text has told so far, on both sides -/
/-- what the reference will take over -/
def TT (J : Nat → Nat → Int) : Td := fun j =>
  if j < 303 then J 1173 j else if j = 303 then J 1170 47 else if j = 304 then J 1170 45 else if j = 305 then J 1170 46 else
  if 310 ≤ j ∧ j < 326 then J 1224 (j - 310) else if 330 ≤ j ∧ j < 346 then J 1225 (j - 330) else if 350 ≤ j ∧ j < 354 then J 1226 (j - 350) else if 360 ≤ j ∧ j < 384 then J 1227 (j - 360) else 0
section TTS
variable {J J' I I' : Nat → Nat → Int} {B : Nat → Int} {ns np nr : Nat}
theorem TT_lo {j : Nat} (h : j < 303) : TT J j = J 1173 j := if_pos h
theorem TT_303 : TT J 303 = J 1170 47 := rfl
theorem TT_304 : TT J 304 = J 1170 45 := rfl
theorem TT_305 : TT J 305 = J 1170 46 := rfl
theorem TT_y {k : Nat} (h : k < 16) : TT J (310 + k) = J 1224 k := by
  unfold TT
  rw [if_neg (by omega), if_neg (by omega), if_neg (by omega), if_neg (by omega), if_pos (by omega), show 310 + k - 310 = k by omega]
theorem TT_a {k : Nat} (h : k < 16) : TT J (330 + k) = J 1225 k := by
  unfold TT
  rw [if_neg (by omega), if_neg (by omega), if_neg (by omega), if_neg (by omega), if_neg (by omega), if_pos (by omega), show 330 + k - 330 = k by omega]
theorem TT_m {k : Nat} (h : k < 4) : TT J (350 + k) = J 1226 k := by
  unfold TT
  rw [if_neg (by omega), if_neg (by omega), if_neg (by omega), if_neg (by omega), if_neg (by omega), if_neg (by omega), if_pos (by omega), show 350 + k - 350 = k by omega]
theorem TT_q {k : Nat} (h : k < 24) : TT J (360 + k) = J 1227 k := by
  unfold TT
  rw [if_neg (by omega), if_neg (by omega), if_neg (by omega), if_neg (by omega), if_neg (by omega), if_neg (by omega), if_neg (by omega), if_pos (by omega), show 360 + k - 360 = k by omega]
theorem TT_ne {j : Nat} (h : (j < 303 → J' 1173 j = J 1173 j) ∧ (j = 303 → J' 1170 47 = J 1170 47) ∧ (j = 304 → J' 1170 45 = J 1170 45) ∧ (j = 305 → J' 1170 46 = J 1170 46) ∧ (310 ≤ j ∧ j < 326 → J' 1224 (j - 310) = J 1224 (j - 310)) ∧ (330 ≤ j ∧ j < 346 → J' 1225 (j - 330) = J 1225 (j - 330)) ∧ (350 ≤ j ∧ j < 354 → J' 1226 (j - 350) = J 1226 (j - 350)) ∧ (360 ≤ j ∧ j < 384 → J' 1227 (j - 360) = J 1227 (j - 360))) : TT J' j = TT J j := by
  obtain ⟨h1, h2, h3, h4, h5, h6, h7, h8⟩ := h
  unfold TT
  repeat' split
  · exact h1 ‹_›
  · exact h2 ‹_›
  · exact h3 ‹_›
  · exact h4 ‹_›
  · exact h5 ‹_›
  · exact h6 ‹_›
  · exact h7 ‹_›
  · exact h8 ‹_›
  · rfl
/-- the draft, as both sides hold it -/
def DR (B : Nat → Int) (ns np nr : Nat) (I J : Nat → Nat → Int) : Prop := NM B ns np nr I J ∧ J 1173 2 = (nr : Nat) ∧ ClsT 112 (TT J) I ∧ WF (TT J) ∧ (I 111 8 = 0 ∨ I 111 8 = 1) ∧ (I 111 9 = 0 ∨ I 111 9 = 1) ∧ J 1170 49 = 1 + 2 * I 111 8 + 4 * I 111 9
theorem DR.nn (h : DR B ns np nr I J) : nSa (TT J) = ns ∧ nPh (TT J) = np ∧ nRu (TT J) = nr ∧ ns ≤ 12 ∧ np ≤ 4 ∧ nr ≤ 24 := by
  obtain ⟨⟨⟨-, -, -, h4, h5, h6⟩, ⟨h7, h8, -⟩⟩, h9, -⟩ := h
  refine ⟨?_, ?_, ?_, h4, h5, h6⟩
  · unfold nSa; rw [TT_304, h7]; rfl
  · unfold nPh; rw [TT_305, h8]; rfl
  · unfold nRu; rw [TT_lo (by decide), h9]; rfl
theorem DR.fr (h : DR B ns np nr I J) (hI : Fr (fun x y => x = 111 ∧ y ≠ 8 ∧ y ≠ 9) I I') (hJ : Fr PNm J J') : DR B ns np nr I' J' := by
  obtain ⟨h1, h2, h3, h4, h5, h6, h7⟩ := h
  have j : ∀ x y, ¬ PNm x y → J' x y = J x y := hJ
  have i : ∀ x y, ¬ (x = 111 ∧ y ≠ 8 ∧ y ≠ 9) → I' x y = I x y := hI
  have e : TT J' = TT J := funext fun k => TT_ne ⟨fun _ => j _ _ (by unfold PNm; omega), fun _ => j _ _ (by unfold PNm; omega), fun _ => j _ _ (by unfold PNm; omega), fun _ => j _ _ (by unfold PNm; omega), fun _ => j _ _ (by unfold PNm; omega), fun _ => j _ _ (by unfold PNm; omega), fun _ => j _ _ (by unfold PNm; omega), fun _ => j _ _ (by unfold PNm; omega)⟩
  unfold DR
  rw [e, i 111 8 (by omega), i 111 9 (by omega), j 1173 2 (by unfold PNm; omega), j 1170 49 (by unfold PNm; omega)]
  exact ⟨h1.fr (fun _ => i _ _ (by omega)) (fun _ => i _ _ (by omega)) (fun _ => i _ _ (by omega)) (j _ _ (by unfold PNm; omega)) (j _ _ (by unfold PNm; omega)) (fun _ => j _ _ (by unfold PNm; omega)), h2, h3.fr h4.1 hI (fun a k q => by omega), h4, h5, h6, h7⟩
theorem WFp_up {T T' : Td} {q : Nat} (h1 : T' (350 + q) = T (350 + q)) (h2 : ∀ k, k < 6 → T' (360 + 6 * q + k) = T (360 + 6 * q + k)) (h3 : T 304 ≤ T' 304) (h : WFp T q) : WFp T' q := by
  obtain ⟨a1, a2, a3⟩ := h
  refine ⟨by rw [h1]; exact a1, fun k hk => ?_, fun k j hkj hj => ?_⟩
  · rw [h1] at hk
    rw [h2 k (by omega)]
    have := a2 k hk
    omega
  · rw [h1] at hj
    rw [h2 k (by omega), h2 j (by omega)]
    exact a3 k j hkj hj
theorem WFr_up {T T' : Td} {q : Nat} (h : ∀ w, w < 5 → tRu T' q w = tRu T q w) (h4 : T 304 ≤ T' 304) (h5 : T 305 ≤ T' 305) (hw : WFr T q) : WFr T' q := by
  unfold WFr at hw ⊢
  rw [h 0 (by decide), h 1 (by decide), h 2 (by decide), h 3 (by decide), h 4 (by decide)]
  rcases hw with ⟨a0, a1, a2, a3⟩ | ⟨a0, a1, a2, a3⟩ | ⟨a0, a1, a3⟩ | ⟨a0, a1, a2, a3⟩ | ⟨a0, a1, a3⟩
  · exact Or.inl ⟨a0, ⟨a1.1, Int.lt_of_lt_of_le a1.2 h4⟩, ⟨a2.1, Int.lt_of_lt_of_le a2.2 h4⟩, a3⟩
  · exact Or.inr (Or.inl ⟨a0, ⟨a1.1, Int.lt_of_lt_of_le a1.2 h4⟩, ⟨a2.1, Int.lt_of_lt_of_le a2.2 h4⟩, a3⟩)
  · exact Or.inr (Or.inr (Or.inl ⟨a0, ⟨a1.1, Int.lt_of_lt_of_le a1.2 h4⟩, a3⟩))
  · exact Or.inr (Or.inr (Or.inr (Or.inl ⟨a0, ⟨a1.1, Int.lt_of_lt_of_le a1.2 h5⟩, ⟨a2.1, Int.lt_of_lt_of_le a2.2 h5⟩, a3⟩)))
  · exact Or.inr (Or.inr (Or.inr (Or.inr ⟨a0, ⟨a1.1, Int.lt_of_lt_of_le a1.2 h5⟩, a3⟩)))
/-- a sample more -/
theorem DR.S {v : Int} (h : DR B ns np nr I J) (hs : ns < 12)
    (hI : Fr (fun x y => (x = 111 ∧ y ≠ 8 ∧ y ≠ 9) ∨ (x = 112 ∧ y = 3) ∨ (118 + 3 * ns ≤ x ∧ x < 121 + 3 * ns) ∨ (x = 186 ∧ y = ns)) I I')
    (hJ : Fr (fun x y => PNm x y ∨ (x = 1170 ∧ y = 45) ∨ (x = 1173 ∧ 123 + 15 * ns ≤ y ∧ y < 138 + 15 * ns) ∨ (x = 1223 ∧ 7 * ns ≤ y ∧ y < 7 * ns + 7)) J J')
    (h3 : I' 112 3 = ((ns + 1 : Nat) : Int)) (h45 : J' 1170 45 = ((ns + 1 : Nat) : Int)) (hv : I' 186 ns = v) (hn : NmM B J' ns v)
    (e : ∀ w, w < 3 → I' (118 + 3 * ns) w = J' 1173 (123 + 15 * ns + w))
    (er : J' 1173 (123 + 15 * ns) = 1 → ∀ k : Nat, (k : Int) < J' 1173 (123 + 15 * ns + 2) → I' (118 + 3 * ns + 1) k = J' 1173 (123 + 15 * ns + (3 + k)) ∧ I' (118 + 3 * ns + 2) k = J' 1173 (123 + 15 * ns + (9 + k)))
    (hw : WFs (TT J') ns) : DR B (ns + 1) np nr I' J' := by
  have hnn := h.nn
  obtain ⟨⟨⟨n3, n4, n5, -, l4, l24⟩, ⟨m45, m46, -, mS, mP⟩⟩, h2, ⟨c1, c2, c3, c4, c5⟩, ⟨w1, w2, w3, w4, w5⟩, b1, b2, b3⟩ := h
  have j : ∀ x y, ¬ (PNm x y ∨ (x = 1170 ∧ y = 45) ∨ (x = 1173 ∧ 123 + 15 * ns ≤ y ∧ y < 138 + 15 * ns) ∨ (x = 1223 ∧ 7 * ns ≤ y ∧ y < 7 * ns + 7)) → J' x y = J x y := hJ
  have i : ∀ x y, ¬ ((x = 111 ∧ y ≠ 8 ∧ y ≠ 9) ∨ (x = 112 ∧ y = 3) ∨ (118 + 3 * ns ≤ x ∧ x < 121 + 3 * ns) ∨ (x = 186 ∧ y = ns)) → I' x y = I x y := hI
  have t : ∀ k, ¬ (123 + 15 * ns ≤ k ∧ k < 138 + 15 * ns) → k ≠ 304 → TT J' k = TT J k := fun k q1 q2 => TT_ne ⟨fun _ => j _ _ (by unfold PNm; omega), fun _ => j _ _ (by unfold PNm; omega), fun q => absurd q q2, fun _ => j _ _ (by unfold PNm; omega), fun _ => j _ _ (by unfold PNm; omega), fun _ => j _ _ (by unfold PNm; omega), fun _ => j _ _ (by unfold PNm; omega), fun _ => j _ _ (by unfold PNm; omega)⟩
  have t4 : TT J' 304 = ((ns + 1 : Nat) : Int) := h45
  have t4' : TT J 304 = (ns : Nat) := m45
  have tS : ∀ s w, s < ns → w < 15 → tSa (TT J') s w = tSa (TT J) s w := fun s w q1 q2 => t _ (by omega) (by omega)
  have tR : ∀ s w, s < nr → w < 5 → tRu (TT J') s w = tRu (TT J) s w := fun s w q1 q2 => t _ (by omega) (by omega)
  have tN : ∀ w, w < 15 → tSa (TT J') ns w = J' 1173 (123 + 15 * ns + w) := fun w q => TT_lo (by omega)
  have s1 : nSa (TT J') = ns + 1 := by unfold nSa; rw [t4]; rfl
  have s2 : nPh (TT J') = nPh (TT J) := by unfold nPh; rw [t 305 (by omega) (by omega)]
  have s3 : nRu (TT J') = nRu (TT J) := by unfold nRu; rw [t 2 (by omega) (by omega)]
  have s4 : nKn (TT J') = nKn (TT J) := by unfold nKn; rw [t 303 (by omega) (by omega)]
  unfold WFn at w1
  have k16 : nKn (TT J) ≤ 16 := by unfold nKn; omega
  refine ⟨⟨⟨h3, by rw [i _ _ (by omega)]; exact n4, by rw [i _ _ (by omega)]; exact n5, by omega, l4, l24⟩, ⟨h45, by rw [j _ _ (by unfold PNm; omega)]; exact m46, ⟨by omega, l4⟩, fun k hk => ?_, fun k hk => ?_⟩⟩, by rw [j _ _ (by unfold PNm; omega)]; exact h2, ⟨?_, fun k hk => ?_, fun s hs => ?_, fun q hq => ?_, fun q hq w hw5 => ?_⟩, ⟨?_, ?_, fun s hs => ?_, fun q hq => ?_, fun q hq => ?_⟩, by rw [i _ _ (by omega)]; exact b1, by rw [i _ _ (by omega)]; exact b2, by rw [j _ _ (by unfold PNm; omega), i _ _ (by omega), i _ _ (by omega)]; exact b3⟩
  · show NmM B J' k (I' 186 k)
    by_cases q : k = ns
    · subst q
      rw [hv]; exact hn
    · rw [i _ _ (by omega)]
      exact (mS k (by omega)).fr (fun t ht => j _ _ (by unfold PNm; omega))
  · show NmM B J' (12 + k) (I' 187 k)
    rw [i _ _ (by omega)]
    exact (mP k hk).fr (fun t ht => j _ _ (by unfold PNm; omega))
  · rw [i 112 0 (by omega), i 112 1 (by omega), i 112 2 (by omega), i 112 4 (by omega), i 112 5 (by omega), t 0 (by omega) (by omega), t 1 (by omega) (by omega), t 303 (by omega) (by omega), t 305 (by omega) (by omega), t 2 (by omega) (by omega), t4]
    exact ⟨c1.1, c1.2.1, c1.2.2.1, h3, c1.2.2.2.2.1, c1.2.2.2.2.2⟩
  · rw [s4] at hk
    rw [i _ _ (by omega), i _ _ (by omega), t _ (by omega) (by omega), t _ (by omega) (by omega)]
    exact c2 k hk
  · rw [s1] at hs
    by_cases q : s = ns
    · subst q
      rw [tN 0 (by decide), tN 1 (by decide), tN 2 (by decide)]
      refine ⟨⟨e 0 (by decide), e 1 (by decide), e 2 (by decide)⟩, fun q k hk => ?_⟩
      have wr : tSa (TT J') s 0 = 1 := (tN 0 (by decide)).trans q
      have k6 : k < 6 := by
        unfold WFs at hw
        rw [tN 2 (by decide)] at hw
        omega
      rw [tN (3 + k) (by omega), tN (9 + k) (by omega)]
      exact er q k hk
    · have sl : s < ns := by omega
      have := c3 s (by rw [hnn.1]; exact sl)
      rw [i _ _ (by omega), i _ _ (by omega), i _ _ (by omega), tS s 0 sl (by decide), tS s 1 sl (by decide), tS s 2 sl (by decide)]
      refine ⟨this.1, fun q k hk => ?_⟩
      have wS := w3 s (by rw [t4']; omega)
      have k6 : k < 6 := by
        unfold WFs at wS
        omega
      rw [i _ _ (by omega), i _ _ (by omega), tS s (3 + k) sl (by omega), tS s (9 + k) sl (by omega)]
      exact this.2 q k hk
  · rw [s2] at hq
    have q4 : q < 4 := by omega
    have := c4 q hq
    rw [i _ _ (by omega), t _ (by omega) (by omega)]
    refine ⟨this.1, fun k hk => ?_⟩
    have wP := (w4 q (by have e := hnn.2.1; unfold nPh at e; omega)).1
    rw [i _ _ (by omega), t _ (by omega) (by omega)]
    exact this.2 k hk
  · rw [s3] at hq
    have q4 : q < nr := by omega
    rw [i _ _ (by omega), tR q w q4 hw5]
    exact c5 q hq w hw5
  · unfold WFn
    rw [t 0 (by omega) (by omega), t 1 (by omega) (by omega), t 303 (by omega) (by omega), t 305 (by omega) (by omega), t 2 (by omega) (by omega), t4]
    omega
  · refine ⟨fun k hk => ?_, fun k hk => ?_⟩
    · rw [t 303 (by omega) (by omega)] at hk
      rw [t _ (by omega) (by omega), t _ (by omega) (by omega)]
      exact w2.1 k hk
    · rw [t 303 (by omega) (by omega)] at hk
      rw [t _ (by omega) (by omega), t _ (by omega) (by omega)]
      exact w2.2 k hk
  · rw [t4] at hs
    by_cases q : s = ns
    · subst q
      exact hw
    · exact WFs_c (fun w hw => tS s w (by omega) hw) (w3 s (by rw [t4']; omega))
  · rw [t 305 (by omega) (by omega)] at hq
    have q4 : q < 4 := by omega
    exact WFp_up (t _ (by omega) (by omega)) (fun k hk => t _ (by omega) (by omega)) (by rw [t4, t4']; omega) (w4 q hq)
  · rw [t 2 (by omega) (by omega)] at hq
    have q4 : q < nr := by have e := hnn.2.2.1; unfold nRu at e; omega
    exact WFr_up (fun w hw => tR q w q4 hw) (by rw [t4, t4']; omega) (by rw [t 305 (by omega) (by omega)]; omega) (w5 q hq)
/-- a phase more -/
theorem DR.P {v : Int} (h : DR B ns np nr I J) (hs : np < 4)
    (hI : Fr (fun x y => (x = 111 ∧ y ≠ 8 ∧ y ≠ 9) ∨ (x = 112 ∧ y = 4) ∨ (154 + 2 * np ≤ x ∧ x < 156 + 2 * np) ∨ (x = 187 ∧ y = np)) I I')
    (hJ : Fr (fun x y => PNm x y ∨ (x = 1170 ∧ y = 46) ∨ (x = 1226 ∧ y = np) ∨ (x = 1227 ∧ 6 * np ≤ y ∧ y < 6 * np + 6) ∨ (x = 1223 ∧ 7 * (12 + np) ≤ y ∧ y < 7 * (12 + np) + 7)) J J')
    (h3 : I' 112 4 = ((np + 1 : Nat) : Int)) (h46 : J' 1170 46 = ((np + 1 : Nat) : Int)) (hv : I' 187 np = v) (hn : NmM B J' (12 + np) v)
    (e : I' (154 + 2 * np) 0 = J' 1226 np) (er : ∀ k : Nat, (k : Int) < J' 1226 np → I' (154 + 2 * np + 1) k = J' 1227 (6 * np + k))
    (hw1 : 1 ≤ J' 1226 np ∧ J' 1226 np ≤ 6) (hw2 : ∀ k : Nat, (k : Int) < J' 1226 np → 0 ≤ J' 1227 (6 * np + k) ∧ J' 1227 (6 * np + k) < ns) (hw3 : ∀ k j : Nat, k < j → (j : Int) < J' 1226 np → J' 1227 (6 * np + k) ≠ J' 1227 (6 * np + j)) : DR B ns (np + 1) nr I' J' := by
  have hnn := h.nn
  obtain ⟨⟨⟨n3, n4, n5, l12, -, l24⟩, ⟨m45, m46, -, mS, mP⟩⟩, h2, ⟨c1, c2, c3, c4, c5⟩, ⟨w1, w2, w3, w4, w5⟩, b1, b2, b3⟩ := h
  have j : ∀ x y, ¬ (PNm x y ∨ (x = 1170 ∧ y = 46) ∨ (x = 1226 ∧ y = np) ∨ (x = 1227 ∧ 6 * np ≤ y ∧ y < 6 * np + 6) ∨ (x = 1223 ∧ 7 * (12 + np) ≤ y ∧ y < 7 * (12 + np) + 7)) → J' x y = J x y := hJ
  have i : ∀ x y, ¬ ((x = 111 ∧ y ≠ 8 ∧ y ≠ 9) ∨ (x = 112 ∧ y = 4) ∨ (154 + 2 * np ≤ x ∧ x < 156 + 2 * np) ∨ (x = 187 ∧ y = np)) → I' x y = I x y := hI
  have t : ∀ k, k ≠ 305 → k ≠ 350 + np → ¬ (360 + 6 * np ≤ k ∧ k < 366 + 6 * np) → TT J' k = TT J k := fun k q1 q2 q3 => TT_ne ⟨fun _ => j _ _ (by unfold PNm; omega), fun _ => j _ _ (by unfold PNm; omega), fun _ => j _ _ (by unfold PNm; omega), fun q => absurd q q1, fun _ => j _ _ (by unfold PNm; omega), fun _ => j _ _ (by unfold PNm; omega), fun _ => j _ _ (by unfold PNm; omega), fun _ => j _ _ (by unfold PNm; omega)⟩
  have t5 : TT J' 305 = ((np + 1 : Nat) : Int) := h46
  have t5' : TT J 305 = (np : Nat) := m46
  have t4' : TT J 304 = (ns : Nat) := m45
  have tm : TT J' (350 + np) = J' 1226 np := TT_m hs
  have tq : ∀ k, k < 6 → TT J' (360 + 6 * np + k) = J' 1227 (6 * np + k) := fun k hk => by rw [Nat.add_assoc]; exact TT_q (by omega)
  have tS : ∀ s w, s < 12 → w < 15 → tSa (TT J') s w = tSa (TT J) s w := fun s w q1 q2 => t _ (by omega) (by omega) (by omega)
  have tR : ∀ s w, s < nr → w < 5 → tRu (TT J') s w = tRu (TT J) s w := fun s w q1 q2 => t _ (by omega) (by omega) (by omega)
  have s1 : nSa (TT J') = nSa (TT J) := by unfold nSa; rw [t 304 (by omega) (by omega) (by omega)]
  have s2 : nPh (TT J') = np + 1 := by unfold nPh; rw [t5]; rfl
  have s3 : nRu (TT J') = nRu (TT J) := by unfold nRu; rw [t 2 (by omega) (by omega) (by omega)]
  have s4 : nKn (TT J') = nKn (TT J) := by unfold nKn; rw [t 303 (by omega) (by omega) (by omega)]
  unfold WFn at w1
  have k16 : nKn (TT J) ≤ 16 := by unfold nKn; omega
  refine ⟨⟨⟨by rw [i _ _ (by omega)]; exact n3, h3, by rw [i _ _ (by omega)]; exact n5, l12, by omega, l24⟩, ⟨by rw [j _ _ (by unfold PNm; omega)]; exact m45, h46, ⟨l12, by omega⟩, fun k hk => ?_, fun k hk => ?_⟩⟩, by rw [j _ _ (by unfold PNm; omega)]; exact h2, ⟨?_, fun k hk => ?_, fun s hs => ?_, fun q hq => ?_, fun q hq w hw5 => ?_⟩, ⟨?_, ?_, fun s hs => ?_, fun q hq => ?_, fun q hq => ?_⟩, by rw [i _ _ (by omega)]; exact b1, by rw [i _ _ (by omega)]; exact b2, by rw [j _ _ (by unfold PNm; omega), i _ _ (by omega), i _ _ (by omega)]; exact b3⟩
  · show NmM B J' k (I' 186 k)
    rw [i _ _ (by omega)]
    exact (mS k hk).fr (fun t ht => j _ _ (by unfold PNm; omega))
  · show NmM B J' (12 + k) (I' 187 k)
    by_cases q : k = np
    · subst q
      rw [hv]; exact hn
    · rw [i _ _ (by omega)]
      exact (mP k (by omega)).fr (fun t ht => j _ _ (by unfold PNm; omega))
  · rw [i 112 0 (by omega), i 112 1 (by omega), i 112 2 (by omega), i 112 3 (by omega), i 112 5 (by omega), t 0 (by omega) (by omega) (by omega), t 1 (by omega) (by omega) (by omega), t 303 (by omega) (by omega) (by omega), t 304 (by omega) (by omega) (by omega), t 2 (by omega) (by omega) (by omega), t5]
    exact ⟨c1.1, c1.2.1, c1.2.2.1, c1.2.2.2.1, h3, c1.2.2.2.2.2⟩
  · rw [s4] at hk
    rw [i _ _ (by omega), i _ _ (by omega), t _ (by omega) (by omega) (by omega), t _ (by omega) (by omega) (by omega)]
    exact c2 k hk
  · rw [s1] at hs
    have sl : s < 12 := by omega
    have := c3 s hs
    rw [i _ _ (by omega), i _ _ (by omega), i _ _ (by omega), tS s 0 sl (by decide), tS s 1 sl (by decide), tS s 2 sl (by decide)]
    refine ⟨this.1, fun q k hk => ?_⟩
    have wS := w3 s (by rw [t4']; omega)
    have k6 : k < 6 := by
      unfold WFs at wS
      omega
    rw [i _ _ (by omega), i _ _ (by omega), tS s (3 + k) sl (by omega), tS s (9 + k) sl (by omega)]
    exact this.2 q k hk
  · rw [s2] at hq
    by_cases z : q = np
    · subst z
      rw [tm]
      refine ⟨e, fun k hk => ?_⟩
      rw [tq k (by omega)]
      exact er k hk
    · have := c4 q (by omega)
      rw [i _ _ (by omega), t _ (by omega) (by omega) (by omega)]
      refine ⟨this.1, fun k hk => ?_⟩
      have wP := (w4 q (by omega)).1
      rw [i _ _ (by omega), t _ (by omega) (by omega) (by omega)]
      exact this.2 k hk
  · rw [s3] at hq
    have q4 : q < nr := by omega
    rw [i _ _ (by omega), tR q w q4 hw5]
    exact c5 q hq w hw5
  · unfold WFn
    rw [t 0 (by omega) (by omega) (by omega), t 1 (by omega) (by omega) (by omega), t 303 (by omega) (by omega) (by omega), t 304 (by omega) (by omega) (by omega), t 2 (by omega) (by omega) (by omega), t5]
    omega
  · refine ⟨fun k hk => ?_, fun k hk => ?_⟩
    · rw [t 303 (by omega) (by omega) (by omega)] at hk
      rw [t _ (by omega) (by omega) (by omega), t _ (by omega) (by omega) (by omega)]
      exact w2.1 k hk
    · rw [t 303 (by omega) (by omega) (by omega)] at hk
      rw [t _ (by omega) (by omega) (by omega), t _ (by omega) (by omega) (by omega)]
      exact w2.2 k hk
  · rw [t 304 (by omega) (by omega) (by omega)] at hs
    exact WFs_c (fun w hw => tS s w (by omega) hw) (w3 s hs)
  · rw [t5] at hq
    by_cases z : q = np
    · subst z
      refine ⟨by rw [tm]; exact hw1, fun k hk => ?_, fun k l hkl hl => ?_⟩
      · rw [tm] at hk
        rw [tq k (by omega), t 304 (by omega) (by omega) (by omega), t4']
        exact hw2 k hk
      · rw [tm] at hl
        rw [tq k (by omega), tq l (by omega)]
        exact hw3 k l hkl hl
    · exact WFp_up (t _ (by omega) (by omega) (by omega)) (fun k hk => t _ (by omega) (by omega) (by omega)) (by rw [t 304 (by omega) (by omega) (by omega)]; omega) (w4 q (by omega))
  · rw [t 2 (by omega) (by omega) (by omega)] at hq
    have q4 : q < nr := by have e := hnn.2.2.1; unfold nRu at e; omega
    exact WFr_up (fun w hw => tR q w q4 hw) (by rw [t 304 (by omega) (by omega) (by omega)]; omega) (by rw [t5, t5']; omega) (w5 q hq)
/-- a rule more -/
theorem DR.R (h : DR B ns np nr I J) (hs : nr < 24)
    (hI : Fr (fun x y => (x = 111 ∧ y ≠ 8 ∧ y ≠ 9) ∨ (x = 112 ∧ y = 5) ∨ x = 162 + nr) I I')
    (hJ : Fr (fun x y => PNm x y ∨ (x = 1173 ∧ y = 2) ∨ (x = 1173 ∧ 3 + 5 * nr ≤ y ∧ y < 8 + 5 * nr)) J J')
    (h3 : I' 112 5 = ((nr + 1 : Nat) : Int)) (hr2 : J' 1173 2 = ((nr + 1 : Nat) : Int)) (e : ∀ w, w < 5 → I' (162 + nr) w = J' 1173 (3 + 5 * nr + w)) (hw : WFr (TT J') nr) : DR B ns np (nr + 1) I' J' := by
  have hnn := h.nn
  obtain ⟨⟨⟨n3, n4, n5, l12, l4, -⟩, ⟨m45, m46, -, mS, mP⟩⟩, h2, ⟨c1, c2, c3, c4, c5⟩, ⟨w1, w2, w3, w4, w5⟩, b1, b2, b3⟩ := h
  have j : ∀ x y, ¬ (PNm x y ∨ (x = 1173 ∧ y = 2) ∨ (x = 1173 ∧ 3 + 5 * nr ≤ y ∧ y < 8 + 5 * nr)) → J' x y = J x y := hJ
  have i : ∀ x y, ¬ ((x = 111 ∧ y ≠ 8 ∧ y ≠ 9) ∨ (x = 112 ∧ y = 5) ∨ x = 162 + nr) → I' x y = I x y := hI
  have t : ∀ k, k ≠ 2 → ¬ (3 + 5 * nr ≤ k ∧ k < 8 + 5 * nr) → TT J' k = TT J k := fun k q1 q2 => TT_ne ⟨fun _ => j _ _ (by unfold PNm; omega), fun _ => j _ _ (by unfold PNm; omega), fun _ => j _ _ (by unfold PNm; omega), fun _ => j _ _ (by unfold PNm; omega), fun _ => j _ _ (by unfold PNm; omega), fun _ => j _ _ (by unfold PNm; omega), fun _ => j _ _ (by unfold PNm; omega), fun _ => j _ _ (by unfold PNm; omega)⟩
  have t2 : TT J' 2 = ((nr + 1 : Nat) : Int) := hr2
  have t2' : TT J 2 = (nr : Nat) := h2
  have t4' : TT J 304 = (ns : Nat) := m45
  have t5' : TT J 305 = (np : Nat) := m46
  have tS : ∀ s w, s < 12 → w < 15 → tSa (TT J') s w = tSa (TT J) s w := fun s w q1 q2 => t _ (by omega) (by omega)
  have tR : ∀ s w, s < nr → w < 5 → tRu (TT J') s w = tRu (TT J) s w := fun s w q1 q2 => t _ (by omega) (by omega)
  have tN : ∀ w, w < 5 → tRu (TT J') nr w = J' 1173 (3 + 5 * nr + w) := fun w q => TT_lo (by omega)
  have s1 : nSa (TT J') = nSa (TT J) := by unfold nSa; rw [t 304 (by omega) (by omega)]
  have s2 : nPh (TT J') = nPh (TT J) := by unfold nPh; rw [t 305 (by omega) (by omega)]
  have s3 : nRu (TT J') = nr + 1 := by unfold nRu; rw [t2]; rfl
  have s4 : nKn (TT J') = nKn (TT J) := by unfold nKn; rw [t 303 (by omega) (by omega)]
  unfold WFn at w1
  have k16 : nKn (TT J) ≤ 16 := by unfold nKn; omega
  refine ⟨⟨⟨by rw [i _ _ (by omega)]; exact n3, by rw [i _ _ (by omega)]; exact n4, h3, l12, l4, by omega⟩, ⟨by rw [j _ _ (by unfold PNm; omega)]; exact m45, by rw [j _ _ (by unfold PNm; omega)]; exact m46, ⟨l12, l4⟩, fun k hk => ?_, fun k hk => ?_⟩⟩, hr2, ⟨?_, fun k hk => ?_, fun s hs => ?_, fun q hq => ?_, fun q hq w hw5 => ?_⟩, ⟨?_, ?_, fun s hs => ?_, fun q hq => ?_, fun q hq => ?_⟩, by rw [i _ _ (by omega)]; exact b1, by rw [i _ _ (by omega)]; exact b2, by rw [j _ _ (by unfold PNm; omega), i _ _ (by omega), i _ _ (by omega)]; exact b3⟩
  · show NmM B J' k (I' 186 k)
    rw [i _ _ (by omega)]
    exact (mS k hk).fr (fun t ht => j _ _ (by unfold PNm; omega))
  · show NmM B J' (12 + k) (I' 187 k)
    rw [i _ _ (by omega)]
    exact (mP k hk).fr (fun t ht => j _ _ (by unfold PNm; omega))
  · rw [i 112 0 (by omega), i 112 1 (by omega), i 112 2 (by omega), i 112 3 (by omega), i 112 4 (by omega), t 0 (by omega) (by omega), t 1 (by omega) (by omega), t 303 (by omega) (by omega), t 304 (by omega) (by omega), t 305 (by omega) (by omega), t2]
    exact ⟨c1.1, c1.2.1, c1.2.2.1, c1.2.2.2.1, c1.2.2.2.2.1, h3⟩
  · rw [s4] at hk
    rw [i _ _ (by omega), i _ _ (by omega), t _ (by omega) (by omega), t _ (by omega) (by omega)]
    exact c2 k hk
  · rw [s1] at hs
    have sl : s < 12 := by omega
    have := c3 s hs
    rw [i _ _ (by omega), i _ _ (by omega), i _ _ (by omega), tS s 0 sl (by decide), tS s 1 sl (by decide), tS s 2 sl (by decide)]
    refine ⟨this.1, fun q k hk => ?_⟩
    have wS := w3 s (by rw [t4']; omega)
    have k6 : k < 6 := by
      unfold WFs at wS
      omega
    rw [i _ _ (by omega), i _ _ (by omega), tS s (3 + k) sl (by omega), tS s (9 + k) sl (by omega)]
    exact this.2 q k hk
  · rw [s2] at hq
    have q4 : q < 4 := by omega
    have := c4 q hq
    rw [i _ _ (by omega), t _ (by omega) (by omega)]
    refine ⟨this.1, fun k hk => ?_⟩
    have wP := (w4 q (by have e := hnn.2.1; unfold nPh at e; omega)).1
    rw [i _ _ (by omega), t _ (by omega) (by omega)]
    exact this.2 k hk
  · rw [s3] at hq
    by_cases z : q = nr
    · subst z
      rw [tN w hw5]
      exact e w hw5
    · have q4 : q < nr := by omega
      rw [i _ _ (by omega), tR q w q4 hw5]
      exact c5 q (by omega) w hw5
  · unfold WFn
    rw [t 0 (by omega) (by omega), t 1 (by omega) (by omega), t 303 (by omega) (by omega), t 304 (by omega) (by omega), t 305 (by omega) (by omega), t2]
    omega
  · refine ⟨fun k hk => ?_, fun k hk => ?_⟩
    · rw [t 303 (by omega) (by omega)] at hk
      rw [t _ (by omega) (by omega), t _ (by omega) (by omega)]
      exact w2.1 k hk
    · rw [t 303 (by omega) (by omega)] at hk
      rw [t _ (by omega) (by omega), t _ (by omega) (by omega)]
      exact w2.2 k hk
  · rw [t 304 (by omega) (by omega)] at hs
    exact WFs_c (fun w hw => tS s w (by omega) hw) (w3 s hs)
  · rw [t 305 (by omega) (by omega)] at hq
    have q4 : q < 4 := by omega
    exact WFp_up (t _ (by omega) (by omega)) (fun k hk => t _ (by omega) (by omega)) (by rw [t 304 (by omega) (by omega)]; omega) (w4 q hq)
  · rw [t2] at hq
    by_cases z : q = nr
    · subst z
      exact hw
    · exact WFr_up (fun w hw => tR q w (by omega) hw) (by rw [t 304 (by omega) (by omega)]; omega) (by rw [t 305 (by omega) (by omega)]; omega) (w5 q (by omega))
/-- the sigma, the reserve -/
theorem DR.V {f : Nat} {v : Int} (hf : f < 2) (h : DR B ns np nr I J)
    (hI : Fr (fun x y => (x = 111 ∧ y ≠ 9 - f) ∨ (x = 112 ∧ y = f)) I I') (hJ : Fr (fun x y => PNm x y ∨ (x = 1170 ∧ y = 49) ∨ (x = 1173 ∧ y = f)) J J')
    (h8 : I' 111 (8 + f) = 1) (h49 : J' 1170 49 = 1 + 2 * I' 111 8 + 4 * I' 111 9) (e1 : I' 112 f = v) (e2 : J' 1173 f = v) (hv : (f = 0 → 1 ≤ v ∧ v ≤ 3) ∧ (f = 1 → -500 ≤ v ∧ v ≤ 500)) : DR B ns np nr I' J' := by
  have hnn := h.nn
  obtain ⟨hN, h2, hC, hW, b1, b2, b3⟩ := h
  have j : ∀ x y, ¬ (PNm x y ∨ (x = 1170 ∧ y = 49) ∨ (x = 1173 ∧ y = f)) → J' x y = J x y := hJ
  have i : ∀ x y, ¬ ((x = 111 ∧ y ≠ 9 - f) ∨ (x = 112 ∧ y = f)) → I' x y = I x y := hI
  have t : TT J' = putT (TT J) f v := by
    funext k
    unfold putT
    by_cases q : k = f
    · subst q
      rw [if_pos rfl, TT_lo (by omega)]
      exact e2
    · rw [if_neg q]
      exact TT_ne ⟨fun _ => j _ _ (by unfold PNm; omega), fun _ => j _ _ (by unfold PNm; omega), fun _ => j _ _ (by unfold PNm; omega), fun _ => j _ _ (by unfold PNm; omega), fun _ => j _ _ (by unfold PNm; omega), fun _ => j _ _ (by unfold PNm; omega), fun _ => j _ _ (by unfold PNm; omega), fun _ => j _ _ (by unfold PNm; omega)⟩
  have hc1 := ClsT_put (v := v) hW.1 hf hC
  have hc2 : ClsT 112 (putT (TT J) f v) I' := by
    refine hc1.fr (P := fun x _ => x < 112) ?_ (fun x y q => ?_) (fun a k q => Or.inl q)
    · have w1 := hW.1
      unfold WFn at w1 ⊢
      unfold putT
      have ff : f = 0 ∨ f = 1 := by omega
      rcases ff with rfl | rfl
      · have := hv.1 rfl
        exact ⟨this, w1.2⟩
      · have := hv.2 rfl
        exact ⟨w1.1, this, w1.2.2⟩
    · rw [u2_def]
      by_cases z : x = 112 ∧ y = f
      · rw [if_pos z, z.1, z.2, e1]
      · rw [if_neg z]
        exact i _ _ (by omega)
  have hw2 : WF (putT (TT J) f v) := by
    obtain ⟨w1, w2, w3, w4, w5⟩ := hW
    have p : ∀ k, 2 ≤ k → putT (TT J) f v k = TT J k := fun k hk => if_neg (by omega)
    refine ⟨?_, ⟨fun k hk => ?_, fun k hk => ?_⟩, fun s hs => ?_, fun q hq => ?_, fun q hq => ?_⟩
    · unfold WFn at w1 ⊢
      unfold putT
      have ff : f = 0 ∨ f = 1 := by omega
      rcases ff with rfl | rfl
      · have := hv.1 rfl
        exact ⟨this, w1.2⟩
      · have := hv.2 rfl
        exact ⟨w1.1, this, w1.2.2⟩
    · rw [p _ (by omega)] at hk
      rw [p _ (by omega), p _ (by omega)]
      exact w2.1 k hk
    · rw [p _ (by omega)] at hk
      rw [p _ (by omega), p _ (by omega)]
      exact w2.2 k hk
    · rw [p _ (by omega)] at hs
      exact WFs_c (T := TT J) (fun w hw => p (123 + 15 * s + w) (by omega)) (w3 s hs)
    · rw [p _ (by omega)] at hq
      exact WFp_up (p _ (by omega)) (fun k hk => p _ (by omega)) (by rw [p _ (by omega)]; omega) (w4 q hq)
    · rw [p _ (by omega)] at hq
      exact WFr_up (T := TT J) (fun w hw => p (3 + 5 * q + w) (by omega)) (by rw [p _ (by omega)]; omega) (by rw [p _ (by omega)]; omega) (w5 q hq)
  rw [← t] at hc2 hw2
  have hN' : NM B ns np nr I' J' := by
    obtain ⟨⟨n3, n4, n5, l12, l4, l24⟩, h4⟩ := hN
    refine ⟨⟨by rw [i _ _ (by omega)]; exact n3, by rw [i _ _ (by omega)]; exact n4, by rw [i _ _ (by omega)]; exact n5, l12, l4, l24⟩, ?_⟩
    have e2 : (fun k => I' 186 k) = fun k => I 186 k := funext fun _ => i _ _ (by omega)
    have e3 : (fun k => I' 187 k) = fun k => I 187 k := funext fun _ => i _ _ (by omega)
    rw [e2, e3]
    exact h4.fr (j _ _ (by unfold PNm; omega)) (j _ _ (by unfold PNm; omega)) (fun _ => j _ _ (by unfold PNm; omega))
  refine ⟨hN', by rw [j _ _ (by unfold PNm; omega)]; exact h2, hc2, hw2, ?_, ?_, h49⟩
  · have ff : f = 0 ∨ f = 1 := by omega
    rcases ff with rfl | rfl
    · exact Or.inr h8
    · rw [i 111 8 (by omega)]; exact b1
  · have ff : f = 0 ∨ f = 1 := by omega
    rcases ff with rfl | rfl
    · rw [i 111 9 (by omega)]; exact b2
    · exact Or.inr h8
end TTS
