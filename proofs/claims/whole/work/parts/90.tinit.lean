/-! THE PURE PART: what may be told is made -/
theorem RR_told {a o k : Nat} (ha : TB a) (ho : o < 74) : RR true (a + o) k = toldR a o k := by
  obtain ⟨j, hj, rfl⟩ := ha
  unfold tb
  by_cases j0 : j = 0
  · rw [if_pos j0]
    unfold RR
    rw [if_pos (by omega), if_neg (by omega), if_pos (by omega), show 34 + o - 34 = o by omega]
  · rw [if_neg j0]
    by_cases j1 : j = 1
    · rw [if_pos j1]
      unfold RR
      rw [if_pos (by omega), if_neg (by omega), if_neg (by omega), if_neg (by omega), if_pos (by omega), show 112 + o - 112 = o by omega]
    · rw [if_neg j1]
      obtain ⟨i, rfl⟩ : ∃ i, j = i + 2 := ⟨j - 2, by omega⟩
      rw [show i + 2 - 2 = i by omega]
      unfold RR
      have e : (282 + 74 * i + o - 282) % 74 = o := by omega
      rw [if_neg (by omega), if_neg (by omega), if_pos (by omega), e, show 282 + 74 * i + o - o = 282 + 74 * i by omega]
theorem toldR_s0 {a s k : Nat} (hs : s < 12) : toldR a (6 + 3 * s) k = if k = 3 then a + (6 + 3 * s) + 1 else if k = 4 then a + (6 + 3 * s) + 2 else 0 := by
  unfold toldR
  rw [if_neg (by omega), if_neg (by omega), if_neg (by omega), if_neg (by omega), if_pos (by omega)]
theorem toldR_s1 {a s k : Nat} (hs : s < 12) : toldR a (6 + 3 * s + 1) k = 0 := by
  unfold toldR
  rw [if_neg (by omega), if_neg (by omega), if_neg (by omega), if_neg (by omega), if_neg (by omega), if_neg (by omega)]
theorem toldR_s2 {a s k : Nat} (hs : s < 12) : toldR a (6 + 3 * s + 2) k = 0 := by
  unfold toldR
  rw [if_neg (by omega), if_neg (by omega), if_neg (by omega), if_neg (by omega), if_neg (by omega), if_neg (by omega)]
theorem toldR_p0 {a s k : Nat} (hs : s < 4) : toldR a (42 + 2 * s) k = if k = 1 then a + (42 + 2 * s) + 1 else 0 := by
  unfold toldR
  rw [if_neg (by omega), if_neg (by omega), if_neg (by omega), if_neg (by omega), if_neg (by omega), if_pos (by omega)]
theorem toldR_p1 {a s k : Nat} (hs : s < 4) : toldR a (42 + 2 * s + 1) k = 0 := by
  unfold toldR
  rw [if_neg (by omega), if_neg (by omega), if_neg (by omega), if_neg (by omega), if_neg (by omega), if_neg (by omega)]
theorem toldR_r {a s k : Nat} (hs : s < 24) : toldR a (50 + s) k = 0 := by
  unfold toldR
  rw [if_neg (by omega), if_neg (by omega), if_neg (by omega), if_neg (by omega), if_neg (by omega), if_neg (by omega)]
section TI
variable {L m z : Nat} {R : Nat → Nat → Nat} {I : Nat → Nat → Int} {a v : Nat}
theorem smp_init (h5 : HC true v = (5, 5)) (h1 : HC true (v + 1) = (51, 6)) (h2 : HC true (v + 2) = (51, 6)) (hm : 32 + m = v + 1) (hv : 32 ≤ v) :
    ∃ I', D_X4_init v (gs L m z R I Zw) = some (gs L (m + 2) (z + 12) (u2 (u1 (u2 (u1 R (v + 1) 0) v 3 (v + 1)) (v + 2) 0) v 4 (v + 2)) I' Zw) ∧ ∀ b k, b < v → I' b k = I b k := by
  refine ⟨u1 (u1 (u2 (u2 (u2 I v 0 0) v 1 0) v 2 0) (v + 1) 0) (v + 2) 0, ?_, fun b k hb => ?_⟩
  · unfold D_X4_init
    refine bdk (tgN_k (by omega)) ?_
    refine gBx h5 hv (by omega) (Or.inl rfl) ?_
    refine gIx h5 hv (by omega) ?_
    refine gIx h5 hv (by omega) ?_
    refine gAx hZw (Nat.zero_le _) (x := 6) (m' := m + 1) (z' := z + 6) hm (by decide) (by decide) rfl h1 rfl rfl h5 hv (by omega) ?_
    refine gAx hZw (Nat.zero_le _) (x := 6) (m' := m + 2) (z' := z + 12) (by omega) (by decide) (by decide) rfl h2 rfl rfl h5 hv (by omega) ?_
    rfl
  · rw [u1_def, if_neg (by omega), u1_def, if_neg (by omega), u2_def, if_neg (by omega), u2_def, if_neg (by omega), u2_def, if_neg (by omega)]
theorem told_78 (ha : TB a) : ∀ (d s f m z : Nat) (R : Nat → Nat → Nat) (I : Nat → Nat → Int), s + d = 12 → d < f → 32 + m = a + 6 + 3 * s → R a 8 = a + 3 →
    ∃ R' I', D_X5_init_78 f a (s : Nat) (gs L m z R I Zw) = some (gs L (m + 3 * d) (z + 17 * d) R' I' Zw) ∧ (∀ b k, a + 6 + 3 * s ≤ b → b < a + 42 → R' b k = RR true b k) ∧ (∀ k, s ≤ k → k < 12 → R' (a + 3) k = a + 6 + 3 * k) ∧
      (∀ b k, b < a + 6 + 3 * s → ¬ (b = a + 3 ∧ s ≤ k ∧ k < 12) → R' b k = R b k) ∧ ∀ b k, b < a + 6 + 3 * s → I' b k = I b k := by
  have a34 := (TB_rng ha).1
  have a32 : 32 ≤ a := by omega
  intro d
  induction d with
  | zero =>
    intro s f m z R I hs hf hm h8
    obtain ⟨f, rfl⟩ : ∃ g, f = g + 1 := ⟨f - 1, by omega⟩
    refine ⟨R, I, if_pos (by omega), fun b k h1 h2 => by omega, fun k h1 h2 => by omega, fun _ _ _ _ => rfl, fun _ _ _ => rfl⟩
  | succ d ih =>
    intro s f m z R I hs hf hm h8
    obtain ⟨f, rfl⟩ : ∃ g, f = g + 1 := ⟨f - 1, by omega⟩
    have s12 : s < 12 := by omega
    obtain ⟨v, hv⟩ : ∃ v, v = a + 6 + 3 * s := ⟨_, rfl⟩
    have w5 : HC true v = (5, 5) := by rw [hv]; exact tHs ha s12
    have w1 : HC true (v + 1) = (51, 6) := by rw [hv]; exact tHs1 ha s12
    have w2 : HC true (v + 2) = (51, 6) := by rw [hv]; exact tHs2 ha s12
    obtain ⟨I1, e1, f1⟩ := smp_init (L := L) (m := m + 1) (z := z + 5) (R := u1 R v 0) (I := u1 I v 0) w5 w1 w2 (by omega) (by omega)
    obtain ⟨R2, hR2⟩ : ∃ R2, R2 = u2 (u2 (u1 (u2 (u1 (u1 R v 0) (v + 1) 0) v 3 (v + 1)) (v + 2) 0) v 4 (v + 2)) (a + 3) s v := ⟨_, rfl⟩
    have r8 : R2 a 8 = a + 3 := by
      rw [hR2, u2_def, if_neg (by omega), u2_def, if_neg (by omega), u1_def, if_neg (by omega), u2_def, if_neg (by omega), u1_def, if_neg (by omega), u1_def, if_neg (by omega), h8]
    obtain ⟨R', I', e, g1, g2, g3, g4⟩ := ih (s + 1) f (m + 3) (z + 17) R2 I1 (by omega) (by omega) (by omega) r8
    refine ⟨R', I', ?_, fun b k h1 h2 => ?_, fun k h1 h2 => ?_, fun b k h1 h2 => ?_, fun b k h1 => ?_⟩
    · show (if (12 : Int) ≤ (s : Nat) then _ else _) = _
      rw [if_neg (by omega)]
      refine bdk (g_gR (tH0 ha) a32 (by omega)) ?_
      rw [h8]
      refine bdk (g_O hZw (Nat.zero_le _) (m' := m + 1) (z' := z + 5) (by omega : 32 + m = v) w5 rfl rfl) ?_
      have n32 : 32 + mN (gs L m z R I Zw) = v := by show 32 + m = v; omega
      rw [n32]
      refine bdk (tgN_k (by omega)) (bdk e1 ?_)
      refine bdk (g_sR (tH3 ha) (by decide) (by omega) (by omega) (by rw [w5]; rfl) (by omega) (by omega) (by omega) (by omega)) ?_
      rw [toN, mw_n (by omega), ← hR2, show m + 1 + 2 = m + 3 by omega, show z + 5 + 12 = z + 17 by omega, e, show m + 3 + 3 * d = m + 3 * (d + 1) by omega, show z + 17 + 17 * d = z + 17 * (d + 1) by omega]
    · by_cases q : a + 6 + 3 * (s + 1) ≤ b
      · exact g1 b k q h2
      · rw [g3 b k (by omega) (by omega), hR2]
        have q3 : b = v ∨ b = v + 1 ∨ b = v + 2 := by omega
        rcases q3 with q3 | q3 | q3
        · rw [show b = a + (6 + 3 * s) by omega, RR_told ha (by omega), toldR_s0 s12, show a + (6 + 3 * s) = v by omega]
          rw [u2_def, if_neg (by omega), u2_def]
          by_cases k4 : k = 4
          · rw [if_pos ⟨rfl, k4⟩, if_neg (by omega), if_pos k4]
          · rw [if_neg (by omega), u1_def, if_neg (by omega), u2_def]
            by_cases k3 : k = 3
            · rw [if_pos ⟨rfl, k3⟩, if_pos k3]
            · rw [if_neg (by omega), if_neg k3, if_neg k4, u1_def, if_neg (by omega), u1_def, if_pos rfl]
        · rw [show b = a + (6 + 3 * s + 1) by omega, RR_told ha (by omega), toldR_s1 s12]
          rw [u2_def, if_neg (by omega), u2_def, if_neg (by omega), u1_def, if_neg (by omega), u2_def, if_neg (by omega), u1_def, if_pos (by omega)]
        · rw [show b = a + (6 + 3 * s + 2) by omega, RR_told ha (by omega), toldR_s2 s12]
          rw [u2_def, if_neg (by omega), u2_def, if_neg (by omega), u1_def, if_pos (by omega)]
    · by_cases q : s + 1 ≤ k
      · exact g2 k q h2
      · rw [g3 _ _ (by omega) (by omega), hR2, u2_def, if_pos (by omega)]
        omega
    · rw [g3 b k (by omega) (by omega), hR2, u2_def, if_neg (by omega), u2_def, if_neg (by omega), u1_def, if_neg (by omega), u2_def, if_neg (by omega), u1_def, if_neg (by omega), u1_def, if_neg (by omega)]
    · rw [g4 b k (by omega), f1 b k (by omega), u1_def, if_neg (by omega)]
theorem pha_init (h5 : HC true v = (2, 2)) (h1 : HC true (v + 1) = (51, 6)) (hm : 32 + m = v + 1) (hv : 32 ≤ v) :
    ∃ I', D_X1_init v (gs L m z R I Zw) = some (gs L (m + 1) (z + 6) (u2 (u1 R (v + 1) 0) v 1 (v + 1)) I' Zw) ∧ ∀ b k, b < v → I' b k = I b k := by
  refine ⟨u1 (u2 I v 0 0) (v + 1) 0, ?_, fun b k hb => ?_⟩
  · unfold D_X1_init
    refine bdk (tgN_k (by omega)) ?_
    refine gIx h5 hv (by omega) ?_
    refine gAx hZw (Nat.zero_le _) (x := 6) (m' := m + 1) (z' := z + 6) hm (by decide) (by decide) rfl h1 rfl rfl h5 hv (by omega) ?_
    rfl
  · rw [u1_def, if_neg (by omega), u2_def, if_neg (by omega)]
theorem told_105 (ha : TB a) : ∀ (d s f m z : Nat) (R : Nat → Nat → Nat) (I : Nat → Nat → Int), s + d = 4 → d < f → 32 + m = a + 42 + 2 * s → R a 9 = a + 4 →
    ∃ R' I', D_X5_init_105 f a (s : Nat) (gs L m z R I Zw) = some (gs L (m + 2 * d) (z + 8 * d) R' I' Zw) ∧ (∀ b k, a + 42 + 2 * s ≤ b → b < a + 50 → R' b k = RR true b k) ∧ (∀ k, s ≤ k → k < 4 → R' (a + 4) k = a + 42 + 2 * k) ∧
      (∀ b k, b < a + 42 + 2 * s → ¬ (b = a + 4 ∧ s ≤ k ∧ k < 4) → R' b k = R b k) ∧ ∀ b k, b < a + 42 + 2 * s → I' b k = I b k := by
  have a34 := (TB_rng ha).1
  have a32 : 32 ≤ a := by omega
  intro d
  induction d with
  | zero =>
    intro s f m z R I hs hf hm h8
    obtain ⟨f, rfl⟩ : ∃ g, f = g + 1 := ⟨f - 1, by omega⟩
    refine ⟨R, I, if_pos (by omega), fun b k h1 h2 => by omega, fun k h1 h2 => by omega, fun _ _ _ _ => rfl, fun _ _ _ => rfl⟩
  | succ d ih =>
    intro s f m z R I hs hf hm h8
    obtain ⟨f, rfl⟩ : ∃ g, f = g + 1 := ⟨f - 1, by omega⟩
    have s12 : s < 4 := by omega
    obtain ⟨v, hv⟩ : ∃ v, v = a + 42 + 2 * s := ⟨_, rfl⟩
    have w5 : HC true v = (2, 2) := by rw [hv]; exact tHp ha s12
    have w1 : HC true (v + 1) = (51, 6) := by rw [hv]; exact tHp1 ha s12
    obtain ⟨I1, e1, f1⟩ := pha_init (L := L) (m := m + 1) (z := z + 2) (R := u1 R v 0) (I := u1 I v 0) w5 w1 (by omega) (by omega)
    obtain ⟨R2, hR2⟩ : ∃ R2, R2 = u2 (u2 (u1 (u1 R v 0) (v + 1) 0) v 1 (v + 1)) (a + 4) s v := ⟨_, rfl⟩
    have r8 : R2 a 9 = a + 4 := by
      rw [hR2, u2_def, if_neg (by omega), u2_def, if_neg (by omega), u1_def, if_neg (by omega), u1_def, if_neg (by omega), h8]
    obtain ⟨R', I', e, g1, g2, g3, g4⟩ := ih (s + 1) f (m + 2) (z + 8) R2 I1 (by omega) (by omega) (by omega) r8
    refine ⟨R', I', ?_, fun b k h1 h2 => ?_, fun k h1 h2 => ?_, fun b k h1 h2 => ?_, fun b k h1 => ?_⟩
    · show (if (4 : Int) ≤ (s : Nat) then _ else _) = _
      rw [if_neg (by omega)]
      refine bdk (g_gR (tH0 ha) a32 (by omega)) ?_
      rw [h8]
      refine bdk (g_O hZw (Nat.zero_le _) (m' := m + 1) (z' := z + 2) (by omega : 32 + m = v) w5 rfl rfl) ?_
      have n32 : 32 + mN (gs L m z R I Zw) = v := by show 32 + m = v; omega
      rw [n32]
      refine bdk (tgN_k (by omega)) (bdk e1 ?_)
      refine bdk (g_sR (tH4 ha) (by decide) (by omega) (by omega) (by rw [w5]; rfl) (by omega) (by omega) (by omega) (by omega)) ?_
      rw [toN, mw_n (by omega), ← hR2, show m + 1 + 1 = m + 2 by omega, show z + 2 + 6 = z + 8 by omega, e, show m + 2 + 2 * d = m + 2 * (d + 1) by omega, show z + 8 + 8 * d = z + 8 * (d + 1) by omega]
    · by_cases q : a + 42 + 2 * (s + 1) ≤ b
      · exact g1 b k q h2
      · rw [g3 b k (by omega) (by omega), hR2]
        have q3 : b = v ∨ b = v + 1 := by omega
        rcases q3 with q3 | q3
        · rw [show b = a + (42 + 2 * s) by omega, RR_told ha (by omega), toldR_p0 s12, show a + (42 + 2 * s) = v by omega]
          rw [u2_def, if_neg (by omega), u2_def]
          by_cases k3 : k = 1
          · rw [if_pos ⟨rfl, k3⟩, if_pos k3]
          · rw [if_neg (by omega), if_neg k3, u1_def, if_neg (by omega), u1_def, if_pos rfl]
        · rw [show b = a + (42 + 2 * s + 1) by omega, RR_told ha (by omega), toldR_p1 s12]
          rw [u2_def, if_neg (by omega), u2_def, if_neg (by omega), u1_def, if_pos (by omega)]
    · by_cases q : s + 1 ≤ k
      · exact g2 k q h2
      · rw [g3 _ _ (by omega) (by omega), hR2, u2_def, if_pos (by omega)]
        omega
    · rw [g3 b k (by omega) (by omega), hR2, u2_def, if_neg (by omega), u2_def, if_neg (by omega), u1_def, if_neg (by omega), u1_def, if_neg (by omega)]
    · rw [g4 b k (by omega), f1 b k (by omega), u1_def, if_neg (by omega)]
theorem rul_init (h5 : HC true v = (4, 5)) (hm : v < 32 + m) (hv : 32 ≤ v) : ∃ I', D_X3_init v (gs L m z R I Zw) = some (gs L m z R I' Zw) ∧ ∀ b k, b < v → I' b k = I b k := by
  refine ⟨u2 (u2 (u2 (u2 (u2 I v 0 0) v 1 0) v 2 (-1)) v 3 0) v 4 (-1), ?_, fun b k hb => ?_⟩
  · unfold D_X3_init
    refine bdk (tgN_k (by omega)) ?_
    refine gIx h5 hv hm ?_
    refine gIx h5 hv hm ?_
    refine gIx h5 hv hm ?_
    refine gIx h5 hv hm ?_
    refine gIx h5 hv hm ?_
    rfl
  · rw [u2_def, if_neg (by omega), u2_def, if_neg (by omega), u2_def, if_neg (by omega), u2_def, if_neg (by omega), u2_def, if_neg (by omega)]
theorem told_131 (ha : TB a) : ∀ (d s f m z : Nat) (R : Nat → Nat → Nat) (I : Nat → Nat → Int), s + d = 24 → d < f → 32 + m = a + 50 + s → R a 10 = a + 5 →
    ∃ R' I', D_X5_init_131 f a (s : Nat) (gs L m z R I Zw) = some (gs L (m + d) (z + 5 * d) R' I' Zw) ∧ (∀ b k, a + 50 + s ≤ b → b < a + 74 → R' b k = RR true b k) ∧ (∀ k, s ≤ k → k < 24 → R' (a + 5) k = a + 50 + k) ∧
      (∀ b k, b < a + 50 + s → ¬ (b = a + 5 ∧ s ≤ k ∧ k < 24) → R' b k = R b k) ∧ ∀ b k, b < a + 50 + s → I' b k = I b k := by
  have a34 := (TB_rng ha).1
  have a32 : 32 ≤ a := by omega
  intro d
  induction d with
  | zero =>
    intro s f m z R I hs hf hm h8
    obtain ⟨f, rfl⟩ : ∃ g, f = g + 1 := ⟨f - 1, by omega⟩
    refine ⟨R, I, if_pos (by omega), fun b k h1 h2 => by omega, fun k h1 h2 => by omega, fun _ _ _ _ => rfl, fun _ _ _ => rfl⟩
  | succ d ih =>
    intro s f m z R I hs hf hm h8
    obtain ⟨f, rfl⟩ : ∃ g, f = g + 1 := ⟨f - 1, by omega⟩
    have s12 : s < 24 := by omega
    obtain ⟨v, hv⟩ : ∃ v, v = a + 50 + s := ⟨_, rfl⟩
    have w5 : HC true v = (4, 5) := by rw [hv]; exact tHr ha s12
    obtain ⟨I1, e1, f1⟩ := rul_init (L := L) (m := m + 1) (z := z + 5) (R := u1 R v 0) (I := u1 I v 0) w5 (by omega) (by omega)
    obtain ⟨R2, hR2⟩ : ∃ R2, R2 = u2 (u1 R v 0) (a + 5) s v := ⟨_, rfl⟩
    have r8 : R2 a 10 = a + 5 := by
      rw [hR2, u2_def, if_neg (by omega), u1_def, if_neg (by omega), h8]
    obtain ⟨R', I', e, g1, g2, g3, g4⟩ := ih (s + 1) f (m + 1) (z + 5) R2 I1 (by omega) (by omega) (by omega) r8
    refine ⟨R', I', ?_, fun b k h1 h2 => ?_, fun k h1 h2 => ?_, fun b k h1 h2 => ?_, fun b k h1 => ?_⟩
    · show (if (24 : Int) ≤ (s : Nat) then _ else _) = _
      rw [if_neg (by omega)]
      refine bdk (g_gR (tH0 ha) a32 (by omega)) ?_
      rw [h8]
      refine bdk (g_O hZw (Nat.zero_le _) (m' := m + 1) (z' := z + 5) (by omega : 32 + m = v) w5 rfl rfl) ?_
      have n32 : 32 + mN (gs L m z R I Zw) = v := by show 32 + m = v; omega
      rw [n32]
      refine bdk (tgN_k (by omega)) (bdk e1 ?_)
      refine bdk (g_sR (tH5 ha) (by decide) (by omega) (by omega) (by rw [w5]; rfl) (by omega) (by omega) (by omega) (by omega)) ?_
      rw [toN, mw_n (by omega), ← hR2, e, show m + 1 + d = m + (d + 1) by omega, show z + 5 + 5 * d = z + 5 * (d + 1) by omega]
    · by_cases q : a + 50 + (s + 1) ≤ b
      · exact g1 b k q h2
      · rw [g3 b k (by omega) (by omega), hR2]
        rw [show b = a + (50 + s) by omega, RR_told ha (by omega), toldR_r s12]
        rw [u2_def, if_neg (by omega), u1_def, if_pos (by omega)]
    · by_cases q : s + 1 ≤ k
      · exact g2 k q h2
      · rw [g3 _ _ (by omega) (by omega), hR2, u2_def, if_pos (by omega)]
        omega
    · rw [g3 b k (by omega) (by omega), hR2, u2_def, if_neg (by omega), u1_def, if_neg (by omega)]
    · rw [g4 b k (by omega), f1 b k (by omega), u1_def, if_neg (by omega)]
theorem told_init (ha : TB a) (hm : 32 + m = a + 1) (hR : ∀ k, R a k = 0) :
    ∃ I', D_X5_init a (gs L m z R I Zw) = some (gs L (m + 73) (z + 428) (wn a (RR true) R) I' Zw) ∧ (∀ b k, b < a → I' b k = I b k) ∧ I' a 0 = 1 ∧ ∀ k, 1 ≤ k → k ≤ 5 → I' a k = 0 := by
  have a34 := (TB_rng ha).1
  have a32 : 32 ≤ a := by omega
  obtain ⟨R5, hR5⟩ : ∃ R5, R5 = u2 (u1 (u2 (u1 (u2 (u1 (u2 (u1 (u2 (u1 R (a + 1) 0) a 6 (a + 1)) (a + 2) 0) a 7 (a + 2)) (a + 3) 0) a 8 (a + 3)) (a + 4) 0) a 9 (a + 4)) (a + 5) 0) a 10 (a + 5) := ⟨_, rfl⟩
  obtain ⟨I5, hI5⟩ : ∃ I5, I5 = u1 (u1 (u1 (u1 (u1 (u2 (u2 (u2 (u2 (u2 (u2 I a 0 1) a 1 0) a 2 0) a 3 0) a 4 0) a 5 0) (a + 1) 0) (a + 2) 0) (a + 3) 0) (a + 4) 0) (a + 5) 0 := ⟨_, rfl⟩
  have ra : ∀ k, R5 a k = if k = 10 then a + 5 else if k = 9 then a + 4 else if k = 8 then a + 3 else if k = 7 then a + 2 else if k = 6 then a + 1 else 0 := by
    intro k
    rw [hR5, u2_def]
    by_cases k10 : k = 10
    · rw [if_pos ⟨rfl, k10⟩, if_pos k10]
    rw [if_neg (by omega), if_neg k10, u1_def, if_neg (by omega), u2_def]
    by_cases k9 : k = 9
    · rw [if_pos ⟨rfl, k9⟩, if_pos k9]
    rw [if_neg (by omega), if_neg k9, u1_def, if_neg (by omega), u2_def]
    by_cases k8 : k = 8
    · rw [if_pos ⟨rfl, k8⟩, if_pos k8]
    rw [if_neg (by omega), if_neg k8, u1_def, if_neg (by omega), u2_def]
    by_cases k7 : k = 7
    · rw [if_pos ⟨rfl, k7⟩, if_pos k7]
    rw [if_neg (by omega), if_neg k7, u1_def, if_neg (by omega), u2_def]
    by_cases k6 : k = 6
    · rw [if_pos ⟨rfl, k6⟩, if_pos k6]
    rw [if_neg (by omega), if_neg k6, u1_def, if_neg (by omega), hR]
  have rn : ∀ b k, a < b → b < a + 6 → R5 b k = 0 := by
    intro b k h1 h2
    have q : b = a + 1 ∨ b = a + 2 ∨ b = a + 3 ∨ b = a + 4 ∨ b = a + 5 := by omega
    rw [hR5, u2_def, if_neg (by omega), u1_def]
    by_cases b5 : b = a + 5
    · rw [if_pos b5]
    rw [if_neg b5, u2_def, if_neg (by omega), u1_def]
    by_cases b4 : b = a + 4
    · rw [if_pos b4]
    rw [if_neg b4, u2_def, if_neg (by omega), u1_def]
    by_cases b3 : b = a + 3
    · rw [if_pos b3]
    rw [if_neg b3, u2_def, if_neg (by omega), u1_def]
    by_cases b2 : b = a + 2
    · rw [if_pos b2]
    rw [if_neg b2, u2_def, if_neg (by omega), u1_def, if_pos (by omega)]
  have ro : ∀ b k, b < a → R5 b k = R b k := by
    intro b k h
    rw [hR5, u2_def, if_neg (by omega), u1_def, if_neg (by omega), u2_def, if_neg (by omega), u1_def, if_neg (by omega), u2_def, if_neg (by omega), u1_def, if_neg (by omega), u2_def, if_neg (by omega), u1_def, if_neg (by omega), u2_def, if_neg (by omega), u1_def, if_neg (by omega)]
  have ia : ∀ k, k ≤ 5 → I5 a k = if k = 0 then 1 else 0 := by
    intro k hk
    have q : k = 0 ∨ k = 1 ∨ k = 2 ∨ k = 3 ∨ k = 4 ∨ k = 5 := by omega
    rw [hI5, u1_def, if_neg (by omega), u1_def, if_neg (by omega), u1_def, if_neg (by omega), u1_def, if_neg (by omega), u1_def, if_neg (by omega)]
    rcases q with rfl | rfl | rfl | rfl | rfl | rfl <;> simp [u2]
  have io : ∀ b k, b < a → I5 b k = I b k := by
    intro b k h
    rw [hI5, u1_def, if_neg (by omega), u1_def, if_neg (by omega), u1_def, if_neg (by omega), u1_def, if_neg (by omega), u1_def, if_neg (by omega), u2_def, if_neg (by omega), u2_def, if_neg (by omega), u2_def, if_neg (by omega), u2_def, if_neg (by omega), u2_def, if_neg (by omega), u2_def, if_neg (by omega)]
  obtain ⟨Ra, Ia, e1, p1, p2, p3, p4⟩ := told_78 (L := L) ha 12 0 mFU (m + 5) (z + 72) R5 I5 rfl (by decide) (by omega) (by rw [ra]; rfl)
  obtain ⟨Rb, Ib, e2, q1, q2, q3, q4⟩ := told_105 (L := L) ha 4 0 mFU (m + 41) (z + 276) Ra Ia rfl (by decide) (by omega) (by rw [p3 a 9 (by omega) (by omega), ra]; rfl)
  obtain ⟨Rc, Ic, e3, r1, r2, r3, r4⟩ := told_131 (L := L) ha 24 0 mFU (m + 49) (z + 308) Rb Ib rfl (by decide) (by omega) (by rw [q3 a 10 (by omega) (by omega), p3 a 10 (by omega) (by omega), ra]; rfl)
  have lo : ∀ b k, b < a + 6 → ¬ (b = a + 3 ∧ k < 12) → ¬ (b = a + 4 ∧ k < 4) → ¬ (b = a + 5 ∧ k < 24) → Rc b k = R5 b k := by
    intro b k h h3 h4 h5
    rw [r3 b k (by omega) (by omega), q3 b k (by omega) (by omega), p3 b k (by omega) (by omega)]
  refine ⟨Ic, ?_, fun b k h => ?_, ?_, fun k h1 h2 => ?_⟩
  · unfold D_X5_init
    have h0 := tH0 (g := true) ha
    refine bdk (tgN_k (by omega)) ?_
    refine gIx h0 a32 (by omega) ?_
    refine gIx h0 a32 (by omega) ?_
    refine gIx h0 a32 (by omega) ?_
    refine gIx h0 a32 (by omega) ?_
    refine gIx h0 a32 (by omega) ?_
    refine gIx h0 a32 (by omega) ?_
    refine gAx hZw (Nat.zero_le _) (x := 16) (m' := m + 1) (z' := z + 16) hm (by decide) (by decide) rfl (tH1 ha) rfl rfl h0 a32 (by omega) ?_
    refine gAx hZw (Nat.zero_le _) (x := 16) (m' := m + 2) (z' := z + 32) (by omega) (by decide) (by decide) rfl (tH2 ha) rfl rfl h0 a32 (by omega) ?_
    refine gAx hZw (Nat.zero_le _) (x := 12) (m' := m + 3) (z' := z + 44) (by omega) (by decide) (by decide) rfl (tH3 ha) rfl rfl h0 a32 (by omega) ?_
    refine gAx hZw (Nat.zero_le _) (x := 4) (m' := m + 4) (z' := z + 48) (by omega) (by decide) (by decide) rfl (tH4 ha) rfl rfl h0 a32 (by omega) ?_
    refine gAx hZw (Nat.zero_le _) (x := 24) (m' := m + 5) (z' := z + 72) (by omega) (by decide) (by decide) rfl (tH5 ha) rfl rfl h0 a32 (by omega) ?_
    rw [← hR5, ← hI5]
    refine bdk e1 (bdk e2 (bdk e3 (congrArg some ?_)))
    refine gs_cong fun b _ hb k => ?_
    show Rc b k = if a ≤ b then RR true b k else R b k
    by_cases c0 : a ≤ b
    · rw [if_pos c0]
      by_cases c1 : a + 50 ≤ b
      · exact r1 b k c1 (by omega)
      by_cases c2 : a + 42 ≤ b
      · rw [r3 b k (by omega) (by omega)]
        exact q1 b k c2 (by omega)
      by_cases c3 : a + 6 ≤ b
      · rw [r3 b k (by omega) (by omega), q3 b k (by omega) (by omega)]
        exact p1 b k c3 (by omega)
      by_cases c4 : b = a
      · subst c4
        rw [lo b k (by omega) (by omega) (by omega) (by omega), ra, show b = b + 0 from rfl, RR_told ha (by omega)]
        unfold toldR
        rw [if_pos rfl]
        by_cases k10 : k = 10
        · subst k10; rfl
        rw [if_neg k10]
        by_cases k9 : k = 9
        · subst k9; rfl
        rw [if_neg k9]
        by_cases k8 : k = 8
        · subst k8; rfl
        rw [if_neg k8]
        by_cases k7 : k = 7
        · subst k7; rfl
        rw [if_neg k7]
        by_cases k6 : k = 6
        · subst k6; rfl
        rw [if_neg k6, if_neg (by omega)]
      by_cases c5 : b = a + 3
      · subst c5
        rw [RR_told ha (by omega)]
        unfold toldR
        rw [if_neg (by decide), if_pos rfl]
        by_cases k12 : k < 12
        · rw [r3 _ k (by omega) (by omega), q3 _ k (by omega) (by omega), p2 k (by omega) k12, if_pos k12]
        · rw [lo _ k (by omega) (by omega) (by omega) (by omega), rn _ k (by omega) (by omega), if_neg k12]
      by_cases c6 : b = a + 4
      · subst c6
        rw [RR_told ha (by omega)]
        unfold toldR
        rw [if_neg (by decide), if_neg (by decide), if_pos rfl]
        by_cases k4 : k < 4
        · rw [r3 _ k (by omega) (by omega), q2 k (by omega) k4, if_pos k4]
        · rw [lo _ k (by omega) (by omega) (by omega) (by omega), rn _ k (by omega) (by omega), if_neg k4]
      by_cases c7 : b = a + 5
      · subst c7
        rw [RR_told ha (by omega)]
        unfold toldR
        rw [if_neg (by decide), if_neg (by decide), if_neg (by decide), if_pos rfl]
        by_cases k24 : k < 24
        · rw [r2 k (by omega) k24, if_pos k24]
        · rw [lo _ k (by omega) (by omega) (by omega) (by omega), rn _ k (by omega) (by omega), if_neg k24]
      rw [lo b k (by omega) (by omega) (by omega) (by omega), rn b k (by omega) (by omega)]
      obtain ⟨o, rfl⟩ : ∃ o, b = a + o := ⟨b - a, by omega⟩
      rw [RR_told ha (by omega)]
      unfold toldR
      rw [if_neg (by omega), if_neg (by omega), if_neg (by omega), if_neg (by omega), if_neg (by omega), if_neg (by omega)]
    · rw [if_neg c0, lo b k (by omega) (by omega) (by omega) (by omega), ro b k (by omega)]
  · rw [r4 b k (by omega), q4 b k (by omega), p4 b k (by omega), io b k h]
  · rw [r4 a 0 (by omega), q4 a 0 (by omega), p4 a 0 (by omega), ia 0 (by omega)]
    rfl
  · rw [r4 a k (by omega), q4 a k (by omega), p4 a k (by omega), ia k h2, if_neg (by omega)]
end TI
