/-! THE PURE PART: the desk keeps years of a span, and notes what went -/
theorem RefF_of {T : Td} {ps py lo : Int} {I : Nat → Nat → Int} (h : LaidP T ps py lo I) (h28 : I 1170 28 = (if lo = -1 ∧ ps = -1 then 1 else 0)) : RefF T I := by
  refine ⟨Or.inr ⟨h.2.2.2.2, h.2.2.2.1⟩, ?_, fun _ q => ?_⟩
  · rw [h28]; split; exact Or.inr rfl; exact Or.inl rfl
  · rw [h28] at q
    by_cases z : lo = -1 ∧ ps = -1
    · obtain ⟨rfl, rfl⟩ := z
      have h' := h
      unfold LaidP at h'
      rw [FP_plain] at h'
      exact ⟨h'.1, h'.2.1, h'.2.2.1⟩
    · rw [if_neg z] at q; cases q
/-- the earliest and the latest of those ahead of one -/
def LoP (q : Nat → Bool) (n : Nat) (v : Int) : Prop := ((∀ z, z < n → q z = false) ∧ v = -1) ∨ ∃ y : Nat, v = y ∧ y < n ∧ q y = true ∧ ∀ z, z < y → q z = false
def HiP (q : Nat → Bool) (n : Nat) (v : Int) : Prop := ((∀ z, z < n → q z = false) ∧ v = -1) ∨ ∃ y : Nat, v = y ∧ y < n ∧ q y = true ∧ ∀ z, y < z → z < n → q z = false
theorem LoP.cut {q q' : Nat → Bool} {n m : Nat} {v : Int} (h : LoP q n v) (hm : m ≤ n) (h1 : ∀ z, z < m → q' z = q z) (h2 : ∀ z, m ≤ z → z < n → q z = false) : LoP q' m v := by
  rcases h with ⟨a, b⟩ | ⟨y, a, b, d, e⟩
  · exact Or.inl ⟨fun z hz => by rw [h1 z hz]; exact a z (by omega), b⟩
  · have ym : y < m := by
      by_cases w : y < m
      · exact w
      · rw [h2 y (by omega) b] at d; cases d
    exact Or.inr ⟨y, a, ym, by rw [h1 y ym]; exact d, fun z hz => by rw [h1 z (by omega)]; exact e z hz⟩
theorem HiP.cut {q q' : Nat → Bool} {n m : Nat} {v : Int} (h : HiP q n v) (hm : m ≤ n) (h1 : ∀ z, z < m → q' z = q z) (h2 : ∀ z, m ≤ z → z < n → q z = false) : HiP q' m v := by
  rcases h with ⟨a, b⟩ | ⟨y, a, b, d, e⟩
  · exact Or.inl ⟨fun z hz => by rw [h1 z hz]; exact a z (by omega), b⟩
  · have ym : y < m := by
      by_cases w : y < m
      · exact w
      · rw [h2 y (by omega) b] at d; cases d
    exact Or.inr ⟨y, a, ym, by rw [h1 y ym]; exact d, fun z hz hz2 => by rw [h1 z hz2]; exact e z hz (by omega)⟩
section CK
variable {g : Bool} {n : Nat} {c : Nat × Nat × Nat × Nat} {I : Nat → Nat → Int} {W : Nat → Nat → BitVec 64} {p : Nat → Nat} {b : Nat}
theorem x0_ko11 {s k : Nat} (h : NB b) (hs : s < 12) (hk : HC g k = (52, 16)) (hks : k ≠ b + 15 + s) : ∀ (d w f : Nat) (W1 : Nat → Nat → BitVec 64) (cn lo hi : Int), w + d = 16 → d < f → (∀ a, a ≠ b + 15 + s → W1 a = W a) → (∀ j, w ≤ j → W1 (b + 15 + s) j = W (b + 15 + s) j) → (∀ j, j < w → W1 (b + 15 + s) j = W (b + 15 + s) j &&& W k j) →
    cn = ((ct (fun y => wb (W (b + 15 + s)) y && wb (W k) y) (64 * w) : Nat) : Int) → LoP (fun y => wb (W (b + 15 + s)) y && wb (W k) y) (64 * w) lo → HiP (fun y => wb (W (b + 15 + s)) y && wb (W k) y) (64 * w) hi →
    ∃ W' lo' hi', D_X0_keepOnly_11 f b (s : Int) k cn lo hi (w : Nat) (st g n c I W1 p) = some (((ct (fun y => wb (W (b + 15 + s)) y && wb (W k) y) 1024 : Nat) : Int), lo', hi', st g n c I W' p) ∧ (∀ a, a ≠ b + 15 + s → W' a = W a) ∧ (∀ j, j < 16 → W' (b + 15 + s) j = W (b + 15 + s) j &&& W k j) ∧
      LoP (fun y => wb (W (b + 15 + s)) y && wb (W k) y) 1024 lo' ∧ HiP (fun y => wb (W (b + 15 + s)) y && wb (W k) y) 1024 hi' := by
  intro d
  induction d with
  | zero =>
    intro w f W1 cn lo hi hw hf h1 h2 h3 h4 h5 h6
    obtain ⟨f, rfl⟩ : ∃ g, f = g + 1 := ⟨f - 1, by omega⟩
    have e : w = 16 := by omega
    subst e
    subst h4
    exact ⟨W1, lo, hi, if_pos (by omega), h1, h3, h5, h6⟩
  | succ d ih =>
    intro w f W1 cn lo hi hw hf h1 h2 h3 h4 h5 h6
    obtain ⟨f, rfl⟩ : ∃ g, f = g + 1 := ⟨f - 1, by omega⟩
    generalize hq : (fun y => wb (W (b + 15 + s)) y && wb (W k) y) = q at *
    have bit : ∀ j, j < 64 → (W (b + 15 + s) w &&& W k w).getLsbD j = q (64 * w + j) := fun j hj => by
      rw [← hq]
      show _ = (wb (W (b + 15 + s)) (64 * w + j) && wb (W k) (64 * w + j))
      unfold wb
      rw [show (64 * w + j) / 64 = w by omega, show (64 * w + j) % 64 = j by omega, BitVec.getLsbD_and]
    have hct : ct q (64 * (w + 1)) = ct q (64 * w) + ct (fun j => (W (b + 15 + s) w &&& W k w).getLsbD j) 64 := by
      rw [Nat.mul_succ, ct_add]
      congr 1
      exact ct_cong fun j hj => (bit j hj).symm
    have c1 := ct_le q (64 * w)
    have c2 := ct_le (fun j => (W (b + 15 + s) w &&& W k w).getLsbD j) 64
    have W2a : ∀ a, a ≠ b + 15 + s → u2 W1 (b + 15 + s) w (W (b + 15 + s) w &&& W k w) a = W a := fun a ha => by
      rw [← h1 a ha]; funext j; exact if_neg (fun z => ha z.1)
    have W2b : ∀ j, w + 1 ≤ j → u2 W1 (b + 15 + s) w (W (b + 15 + s) w &&& W k w) (b + 15 + s) j = W (b + 15 + s) j := fun j hj => by
      rw [u2_def, if_neg (by omega)]; exact h2 j (by omega)
    have W2c : ∀ j, j < w + 1 → u2 W1 (b + 15 + s) w (W (b + 15 + s) w &&& W k w) (b + 15 + s) j = W (b + 15 + s) j &&& W k j := fun j hj => by
      rw [u2_def]
      by_cases z : j = w
      · subst z; exact if_pos ⟨rfl, rfl⟩
      · rw [if_neg (fun y => z y.2)]; exact h3 j (by omega)
    have go := fun cn2 lo2 hi2 => ih (w + 1) f (u2 W1 (b + 15 + s) w (W (b + 15 + s) w &&& W k w)) cn2 lo2 hi2 (by omega) (by omega) W2a W2b W2c
    have head : ∀ {R : Option (Int × Int × Int × mS)}, (if (mlcmp (W (b + 15 + s) w &&& W k w) (0 : BitVec 64)) = 0 then
        D_X0_keepOnly_100 (D_X0_keepOnly_11 f) b (s : Int) k cn lo hi (w : Int) (st g n c I (u2 W1 (b + 15 + s) w (W (b + 15 + s) w &&& W k w)) p)
      else
        (D_J13_bitCount_95d88 (W (b + 15 + s) w &&& W k w) (st g n c I (u2 W1 (b + 15 + s) w (W (b + 15 + s) w &&& W k w)) p)).bind fun r8 =>
        if lo ≠ ((-1)) then
          D_X0_keepOnly_82 (D_X0_keepOnly_11 f) b (s : Int) k (mw (cn + r8)) (w : Int) (W (b + 15 + s) w &&& W k w) lo (st g n c I (u2 W1 (b + 15 + s) w (W (b + 15 + s) w &&& W k w)) p)
        else
          (D_J13_numberOfTrailingZeros_95d88 (W (b + 15 + s) w &&& W k w) (st g n c I (u2 W1 (b + 15 + s) w (W (b + 15 + s) w &&& W k w)) p)).bind fun r9 =>
          D_X0_keepOnly_82 (D_X0_keepOnly_11 f) b (s : Int) k (mw (cn + r8)) (w : Int) (W (b + 15 + s) w &&& W k w) (mw ((mw (64 * (w : Int))) + r9)) (st g n c I (u2 W1 (b + 15 + s) w (W (b + 15 + s) w &&& W k w)) p)) = R →
        D_X0_keepOnly_11 (f + 1) b (s : Int) k cn lo hi (w : Nat) (st g n c I W1 p) = R := by
      intro R hh
      show (if (16 : Int) ≤ (w : Nat) then _ else _) = _
      rw [if_neg (by omega)]
      refine bdk (n0R3 h) (bdk (n0A14 h (by omega) (by omega)) (bdk (s_lL (n0H15 h hs) (by omega) (by omega)) (bdk (s_lL hk (by omega) (by omega)) (bdk (n0R3 h) (bdk (n0A14 h (by omega) (by omega)) (bdk (s_sL (n0H15 h hs) (by omega) (by omega)) ?_))))))
      rw [toN, toN, h2 w (Nat.le_refl w), h1 k hks]
      exact hh
    by_cases z : W (b + 15 + s) w &&& W k w = 0
    · have none : ∀ j, 64 * w ≤ j → j < 64 * (w + 1) → q j = false := fun j j1 j2 => by
        have := bit (j - 64 * w) (by omega)
        rw [z, show 64 * w + (j - 64 * w) = j by omega] at this
        rw [← this]
        exact BitVec.getLsbD_zero
      have z2 : ct (fun j => (W (b + 15 + s) w &&& W k w).getLsbD j) 64 = 0 := ct_0.2 (fun j hj => by rw [z]; exact BitVec.getLsbD_zero)
      obtain ⟨W', lo', hi', e, r⟩ := go cn lo hi (by rw [h4, hct, z2]; rfl) (by
        rcases h5 with ⟨a, e⟩ | ⟨y, a, e, f1, f2⟩
        · exact Or.inl ⟨fun z hz => by
            by_cases v : z < 64 * w
            · exact a z v
            · exact none z (by omega) hz, e⟩
        · exact Or.inr ⟨y, a, by omega, f1, f2⟩) (by
        rcases h6 with ⟨a, e⟩ | ⟨y, a, e, f1, f2⟩
        · exact Or.inl ⟨fun z hz => by
            by_cases v : z < 64 * w
            · exact a z v
            · exact none z (by omega) hz, e⟩
        · exact Or.inr ⟨y, a, by omega, f1, fun z hz hz2 => by
            by_cases v : z < 64 * w
            · exact f2 z hz v
            · exact none z (by omega) hz2⟩)
      refine ⟨W', lo', hi', head ?_, r⟩
      rw [if_pos (mlcmp_0.2 z)]
      unfold D_X0_keepOnly_100
      rw [mw_n (by omega)]
      exact e
    · have nz : (W (b + 15 + s) w &&& W k w).toNat ≠ 0 := fun y => z (BitVec.eq_of_toNat_eq (by rw [y]; rfl))
      obtain ⟨t, ht⟩ := low_ex _ nz
      obtain ⟨u, hu⟩ := high_ex _ nz
      have t64 : t < 64 := low_lt ht (W (b + 15 + s) w &&& W k w).isLt
      have u64 : u < 64 := high_lt hu (W (b + 15 + s) w &&& W k w).isLt
      have qt : q (64 * w + t) = true := (bit t t64).symm.trans (low_at ht)
      have qu : q (64 * w + u) = true := (bit u u64).symm.trans (high_at hu)
      have below : ∀ j, 64 * w ≤ j → j < 64 * w + t → q j = false := fun j j1 j2 => by
        have := bit (j - 64 * w) (by omega)
        rw [show 64 * w + (j - 64 * w) = j by omega] at this
        rw [← this]
        exact low_below ht (by omega)
      have above : ∀ j, 64 * w + u < j → j < 64 * (w + 1) → q j = false := fun j j1 j2 => by
        have := bit (j - 64 * w) (by omega)
        rw [show 64 * w + (j - 64 * w) = j by omega] at this
        rw [← this]
        exact high_above hu (by omega)
      have nhi : HiP q (64 * (w + 1)) ((64 * w + u : Nat) : Int) := Or.inr ⟨64 * w + u, rfl, by omega, qu, above⟩
      have e82 : ∀ lo2 : Int, D_X0_keepOnly_82 (D_X0_keepOnly_11 f) b (s : Int) k (mw (cn + ((ct (fun j => (W (b + 15 + s) w &&& W k w).getLsbD j) 64 : Nat) : Int))) (w : Int) (W (b + 15 + s) w &&& W k w) lo2 (st g n c I (u2 W1 (b + 15 + s) w (W (b + 15 + s) w &&& W k w)) p)
          = D_X0_keepOnly_11 f b (s : Int) k ((ct q (64 * (w + 1)) : Nat) : Int) lo2 ((64 * w + u : Nat) : Int) ((w + 1 : Nat) : Int) (st g n c I (u2 W1 (b + 15 + s) w (W (b + 15 + s) w &&& W k w)) p) := by
        intro lo2
        unfold D_X0_keepOnly_82 D_X0_keepOnly_100
        refine bdk (nlz64 hu) ?_
        rw [mw_n (by omega), mw_of (x := 64 * (w : Int)) (by omega) (by omega), mw_of (x := 64 * (w : Int) + 63) (by omega) (by omega), mw_of (x := 64 * (w : Int) + 63 - _) (by omega) (by omega), h4, mw_of (x := ((ct q (64 * w) : Nat) : Int) + _) (by omega) (by omega), hct]
        rw [show 64 * (w : Int) + 63 - (63 - (u : Int)) = ((64 * w + u : Nat) : Int) by omega, show ((ct q (64 * w) : Nat) : Int) + ((ct (fun j => (W (b + 15 + s) w &&& W k w).getLsbD j) 64 : Nat) : Int) = ((ct q (64 * w) + ct (fun j => (W (b + 15 + s) w &&& W k w).getLsbD j) 64 : Nat) : Int) by omega]
      by_cases v : lo = -1
      · have nlo : LoP q (64 * (w + 1)) ((64 * w + t : Nat) : Int) := by
          refine Or.inr ⟨64 * w + t, rfl, by omega, qt, fun j hj => ?_⟩
          by_cases x : j < 64 * w
          · rcases h5 with ⟨a, e⟩ | ⟨y, a, e⟩
            · exact a j x
            · omega
          · exact below j (by omega) hj
        obtain ⟨W', lo', hi', e, r⟩ := go _ _ _ rfl nlo nhi
        refine ⟨W', lo', hi', head ?_, r⟩
        rw [if_neg (fun y => z (mlcmp_0.1 y))]
        refine bdk (bitCount_k _ _) ?_
        rw [if_neg (by omega)]
        refine bdk (ntz64 ht) ?_
        rw [mw_of (x := 64 * (w : Int)) (by omega) (by omega), mw_of (x := 64 * (w : Int) + (t : Int)) (by omega) (by omega), e82, show 64 * (w : Int) + (t : Int) = ((64 * w + t : Nat) : Int) by omega]
        exact e
      · have nlo : LoP q (64 * (w + 1)) lo := by
          rcases h5 with ⟨a, e⟩ | ⟨y, a, e, f1, f2⟩
          · exact absurd e v
          · exact Or.inr ⟨y, a, by omega, f1, f2⟩
        obtain ⟨W', lo', hi', e, r⟩ := go _ _ _ rfl nlo nhi
        refine ⟨W', lo', hi', head ?_, r⟩
        rw [if_neg (fun y => z (mlcmp_0.1 y))]
        refine bdk (bitCount_k _ _) ?_
        rw [if_pos v, e82]
        exact e
theorem x0_keepOnly {s k : Nat} {S K : Nat → Bool} (h : NB b) (hs : s < 12) (hk : HC g k = (52, 16)) (hks : k ≠ b + 15 + s) (hS : ∀ y, y < 1024 → wb (W (b + 15 + s)) y = (decide (y < 1000) && S y)) (hK : ∀ y, y < 1000 → wb (W k) y = K y) :
    ∃ W' lo hi, D_X0_keepOnly b (s : Int) k (st g n c I W p) = some (st g n c (u2 (u2 (u2 I (b + 27) s ((ct (fun y => S y && K y) 1000 : Nat) : Int)) (b + 28) s lo) (b + 29) s hi) W' p) ∧ (∀ a, a ≠ b + 15 + s → W' a = W a) ∧ (∀ y, y < 1024 → wb (W' (b + 15 + s)) y = (decide (y < 1000) && (S y && K y))) ∧
      LoP (fun y => S y && K y) 1000 lo ∧ HiP (fun y => S y && K y) 1000 hi := by
  obtain ⟨W', lo, hi, e, f1, f2, f3, f4⟩ := x0_ko11 (n := n) (c := c) (I := I) (W := W) (p := p) (g := g) h hs hk hks 16 0 mFU W 0 (-1) (-1) rfl (by decide) (fun a _ => rfl) (fun j _ => rfl) (fun j hj => by omega) rfl (Or.inl ⟨fun z hz => by omega, rfl⟩) (Or.inl ⟨fun z hz => by omega, rfl⟩)
  have e1 : ∀ z, z < 1000 → (fun y => S y && K y) z = (fun y => wb (W (b + 15 + s)) y && wb (W k) y) z := fun z hz => by
    show (S z && K z) = (wb (W (b + 15 + s)) z && wb (W k) z)
    rw [hS z (by omega), hK z hz, decide_eq_true hz, Bool.true_and]
  have e2 : ∀ z, 1000 ≤ z → z < 1024 → (fun y => wb (W (b + 15 + s)) y && wb (W k) y) z = false := fun z hz hz2 => by
    show (wb (W (b + 15 + s)) z && wb (W k) z) = false
    rw [hS z hz2, decide_eq_false (by omega), Bool.false_and, Bool.false_and]
  have e3 : ct (fun y => wb (W (b + 15 + s)) y && wb (W k) y) 1024 = ct (fun y => S y && K y) 1000 := by
    have z : ct (fun j => wb (W (b + 15 + s)) (1000 + j) && wb (W k) (1000 + j)) 24 = 0 := ct_0.2 (fun j hj => e2 (1000 + j) (by omega) (by omega))
    rw [show 1024 = 1000 + 24 from rfl, ct_add, z, Nat.add_zero]
    exact (ct_cong e1).symm
  rw [e3] at e
  refine ⟨W', lo, hi, ?_, f1, fun y hy => ?_, f3.cut (by decide) e1 e2, f4.cut (by decide) e1 e2⟩
  · unfold D_X0_keepOnly
    exact bdk e (bdk (n0R4 h) (bdk (n0S27 h (by omega) (by omega)) (bdk (n0R5 h) (bdk (n0S28 h (by omega) (by omega)) (bdk (n0R6 h) (bdk (n0S29 h (by omega) (by omega)) rfl))))))
  · have : wb (W' (b + 15 + s)) y = (wb (W (b + 15 + s)) y && wb (W k) y) := by
      unfold wb
      rw [f2 _ (by omega), BitVec.getLsbD_and]
    rw [this]
    by_cases q : y < 1000
    · rw [hS y hy, hK y q, decide_eq_true q, Bool.true_and, Bool.true_and]
    · rw [hS y hy, decide_eq_false q, Bool.false_and, Bool.false_and, Bool.false_and]
end CK
