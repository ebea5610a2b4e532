/-! THE PURE PART: words and their bits -/
theorem mshr_6 {x : Int} (h : mIn x) : mshr x 6 = x / 64 := by
  unfold mshr
  rw [← Int32.toInt_toBitVec, Int32.toBitVec_shiftRight, BitVec.sshiftRight_eq', BitVec.toInt_sshiftRight, Int32.toInt_toBitVec, oi_to h, Int.shiftRight_eq_div_pow]
  rfl
theorem mand_mask {n k m : Nat} (h : n < 2147483648) (hm : m = 2 ^ k - 1) (hk : k ≤ 31) : mand (n : Int) (m : Int) = ((n % 2 ^ k : Nat) : Int) := by
  unfold mand
  have hp : 2 ^ k ≤ 2 ^ 31 := Nat.pow_le_pow_right (by decide) hk
  have e : (Int32.ofInt (n : Int) &&& Int32.ofInt (m : Int)).toBitVec.toNat = n % 2 ^ k := by
    rw [Int32.toBitVec_and, Int32.toBitVec_ofInt, Int32.toBitVec_ofInt, BitVec.toNat_and, BitVec.toNat_ofInt, BitVec.toNat_ofInt]
    rw [show ((n : Int) % ((2 ^ 32 : Nat) : Int)).toNat = n by omega, show ((m : Int) % ((2 ^ 32 : Nat) : Int)).toNat = m by omega, hm, Nat.and_two_pow_sub_one_eq_mod]
  rw [← Int32.toInt_toBitVec, BitVec.toInt_eq_toNat_of_lt (by rw [e]; have := Nat.mod_le n (2 ^ k); omega), e]
theorem mand_63 {n : Nat} (h : n < 2147483648) : mand (n : Int) 63 = ((n % 64 : Nat) : Int) := mand_mask (k := 6) (m := 63) h rfl (by decide)
theorem am_l : ∀ k : Fin 64, ((((Int32.ofInt (k.1 : Nat)).toInt64 &&& 63).toBitVec.smod 64).toNat) = k.1 := by decide +kernel
theorem am_r : ∀ k : Fin 64, ((((Int32.ofInt (k.1 : Nat)).toInt64.toUInt64 &&& Int64.toUInt64 63).toBitVec % 64).toNat) = k.1 := by decide +kernel
theorem mlshl_k {w : BitVec 64} {k : Nat} (h : k < 64) : mlshl w (k : Int) = w <<< k := by
  show w <<< (((Int32.ofInt (k : Nat)).toInt64 &&& 63).toBitVec.smod 64) = _
  rw [BitVec.shiftLeft_eq', am_l ⟨k, h⟩]
theorem mlushr_k {w : BitVec 64} {k : Nat} (h : k < 64) : mlushr w (k : Int) = w >>> k := by
  show w >>> (((Int32.ofInt (k : Nat)).toInt64.toUInt64 &&& Int64.toUInt64 63).toBitVec % 64) = _
  rw [BitVec.ushiftRight_eq', am_r ⟨k, h⟩]
theorem mlcmp_0 {x y : BitVec 64} : mlcmp x y = 0 ↔ x = y := by
  unfold mlcmp lg_cmp
  constructor
  · intro h
    split at h
    · exact absurd h (by decide)
    · split at h
      · rename_i e
        exact congrArg Int64.toBitVec e
      · exact absurd h (by decide)
  · intro h
    subst h
    rw [if_neg (by show ¬ Int64.ofBitVec x < Int64.ofBitVec x; rw [Int64.lt_iff_toInt_lt]; omega), if_pos rfl]
    rfl
/-- the lowest bit that is set -/
def Low (n t : Nat) : Prop := n % 2 ^ t = 0 ∧ n / 2 ^ t % 2 = 1
theorem low_ex : ∀ n : Nat, n ≠ 0 → ∃ t, Low n t := fun n => by
  induction n using Nat.strongRecOn with
  | _ n ih =>
    intro h
    by_cases o : n % 2 = 1
    · exact ⟨0, by simp [Nat.mod_one], by simpa using o⟩
    · obtain ⟨t, h1, h2⟩ := ih (n / 2) (by omega) (by omega)
      refine ⟨t + 1, ?_, ?_⟩
      · rw [Nat.pow_succ, Nat.mul_comm, Nat.mod_mul, h1]; omega
      · rw [Nat.pow_succ, Nat.mul_comm, ← Nat.div_div_eq_div_mul]; exact h2
theorem low_below {n t j : Nat} (h : Low n t) (hj : j < t) : n.testBit j = false := by
  have := Nat.testBit_mod_two_pow n t j
  rw [h.1] at this; simpa [hj] using this.symm
theorem low_at {n t : Nat} (h : Low n t) : n.testBit t = true := by simp [Nat.testBit_eq_decide_div_mod_eq, h.2]
theorem low_lt {n t w : Nat} (h : Low n t) (hn : n < 2 ^ w) : t < w := by
  refine Nat.lt_of_not_le fun q => ?_
  have := Nat.testBit_lt_two_pow (Nat.lt_of_lt_of_le hn (Nat.pow_le_pow_right (by decide) q))
  rw [low_at h] at this; cases this
theorem low_pred {n t : Nat} (h : Low n t) (j : Nat) : (!n.testBit j && (n - 1).testBit j) = decide (j < t) := by
  obtain ⟨q, hq⟩ : ∃ q, n / 2 ^ t = 2 * q + 1 := ⟨n / 2 ^ t / 2, by have := h.2; omega⟩
  have hp := Nat.two_pow_pos t
  have e1 : n = 2 ^ t * (2 * q + 1) + 0 := by have := Nat.div_add_mod n (2 ^ t); rw [h.1, hq] at this; exact this.symm
  have e2 : n - 1 = 2 ^ t * (2 * q) + (2 ^ t - 1) := by rw [e1, Nat.mul_add]; omega
  rw [e2]
  conv => lhs; lhs; rw [e1]
  rw [Nat.testBit_two_pow_mul_add _ hp, Nat.testBit_two_pow_mul_add _ (by omega)]
  by_cases a : j < t
  · simp [a]
  · rw [if_neg a, if_neg a]
    cases hd : j - t with
    | zero => simp [a]
    | succ d =>
      rw [Nat.testBit_succ, Nat.testBit_succ, show (2 * q + 1) / 2 = q from by omega, show 2 * q / 2 = q from by omega]
      simp [a]
def ntzB (y : Int) (σ : mS) : Option Int :=
  if 0 < y then
    if y ≤ 65536 then
      D_J6_numberOfTrailingZeros_0f7a4_34 y 1 σ
    else
      D_J6_numberOfTrailingZeros_0f7a4_34 (mushr y 16) (mw (1 + 16)) σ
  else
    some (mand y 32)
def ntzC (y : Int) : Option Int :=
  let f62 := fun (x0 x1 : Int) => if x0 ≤ 4 then some (mw (x1 + (mushr x0 1))) else some (mw (mw (x1 + 2) + (mushr (mushr x0 2) 1)))
  let f49 := fun (x0 x1 : Int) => if x0 ≤ 16 then f62 x0 x1 else f62 (mushr x0 4) (mw (x1 + 4))
  let f34 := fun (x0 x1 : Int) => if x0 ≤ 256 then f49 x0 x1 else f49 (mushr x0 8) (mw (x1 + 8))
  if 0 < y then
    if y ≤ 65536 then f34 y 1 else f34 (mushr y 16) (mw (1 + 16))
  else some (mand y 32)
theorem ntzB_C (y : Int) (σ : mS) : ntzB y σ = ntzC y := rfl
theorem ntzC_mask : ∀ t : Fin 32, ntzC (((2 ^ t.1 - 1 : Nat)) : Int) = some ((t.1 : Nat) : Int) := by decide +kernel
theorem ntz32 {X : Int32} {t : Nat} {σ : mS} (h : Low X.toBitVec.toNat t) : D_J6_numberOfTrailingZeros_0f7a4 X.toInt σ = some (t : Int) := by
  have ht : t < 32 := low_lt h X.toBitVec.isLt
  have hp := Nat.two_pow_pos t
  have hle : 2 ^ t ≤ 2 ^ 31 := Nat.pow_le_pow_right (by decide) (by omega)
  have hpos : 0 < X.toBitVec.toNat := Nat.pos_of_ne_zero fun e => by have := low_at h; rw [e] at this; simp at this
  have hy : (X ^^^ (-1)) &&& (X - 1) = Int32.ofNat (2 ^ t - 1) := by
    apply Int32.toBitVec_inj.mp
    apply BitVec.eq_of_getLsbD_eq
    intro j hj
    have e1 : (X - 1).toBitVec.toNat = X.toBitVec.toNat - 1 := by
      have := X.toBitVec.isLt
      rw [Int32.toBitVec_sub, BitVec.toNat_sub]; show (2 ^ 32 - 1 + X.toBitVec.toNat) % 2 ^ 32 = _; omega
    have e2 : (Int32.ofNat (2 ^ t - 1)).toBitVec.toNat = 2 ^ t - 1 := by show (2 ^ t - 1) % 2 ^ 32 = _; omega
    have e3 : (-1 : Int32).toBitVec.getLsbD j = true := by
      have : ∀ j : Fin 32, (-1 : Int32).toBitVec.getLsbD j.1 = true := by decide
      exact this ⟨j, hj⟩
    rw [Int32.toBitVec_and, Int32.toBitVec_xor, BitVec.getLsbD_and, BitVec.getLsbD_xor, e3, Bool.xor_true]
    show (!X.toBitVec.toNat.testBit j && (X - 1).toBitVec.toNat.testBit j) = (Int32.ofNat (2 ^ t - 1)).toBitVec.toNat.testBit j
    rw [e1, e2, low_pred h j, Nat.testBit_two_pow_sub_one]
  have e9 : mand (mxor X.toInt (-1)) (mw (X.toInt - 1)) = ((2 ^ t - 1 : Nat) : Int) := by
    unfold mand mxor
    rw [oi_back, oi_back, oi_mw, Int32.ofInt_sub, oi_back, show Int32.ofInt (-1) = -1 from rfl, show Int32.ofInt 1 = 1 from rfl, hy]
    rw [Int32.toInt_ofNat_of_lt (by omega)]
  show ntzB (mand (mxor X.toInt (-1)) (mw (X.toInt - 1))) σ = _
  rw [e9, ntzB_C]
  exact ntzC_mask ⟨t, ht⟩
theorem ml2i_n (w : BitVec 64) : (Int64.ofBitVec w).toInt32.toBitVec.toNat = w.toNat % 2 ^ 32 := by
  rw [Int64.toBitVec_toInt32, BitVec.signExtend_eq_setWidth_of_le _ (show 32 ≤ 64 from by decide)]
  show (BitVec.setWidth 32 w).toNat = _
  rw [BitVec.toNat_setWidth]
theorem ml2i_0 (w : BitVec 64) : ml2i w = 0 ↔ w.toNat % 2 ^ 32 = 0 := by
  unfold ml2i
  constructor
  · intro h
    have : (Int64.ofBitVec w).toInt32 = 0 := Int32.toInt_inj.1 h
    rw [← ml2i_n, this]
    rfl
  · intro h
    have : (Int64.ofBitVec w).toInt32 = 0 := Int32.toBitVec_inj.mp (BitVec.eq_of_toNat_eq (by rw [ml2i_n, h]; rfl))
    rw [this]
    rfl
theorem sh32 (w : BitVec 64) : (mlushr w 32).toNat = w.toNat / 2 ^ 32 := by
  rw [show (32 : Int) = ((32 : Nat) : Int) from rfl, mlushr_k (by decide), BitVec.toNat_ushiftRight, Nat.shiftRight_eq_div_pow]
theorem ntz64 {w : BitVec 64} {t : Nat} {σ : mS} (h : Low w.toNat t) : D_J13_numberOfTrailingZeros_95d88 w σ = some (t : Int) := by
  have ht : t < 64 := low_lt h w.isLt
  have hlt := w.isLt
  unfold D_J13_numberOfTrailingZeros_95d88
  by_cases q : t < 32
  · have hl : Low (Int64.ofBitVec w).toInt32.toBitVec.toNat t := by
      rw [ml2i_n]
      obtain ⟨d, hd⟩ : ∃ d, 32 = t + (d + 1) := ⟨31 - t, by omega⟩
      rw [hd, Nat.pow_add]
      exact ⟨by rw [Nat.mod_mul_right_mod]; exact h.1, by rw [Nat.mod_mul_right_div_self, Nat.pow_succ, Nat.mul_comm, Nat.mod_mul_right_mod]; exact h.2⟩
    have hz : ml2i w ≠ 0 := fun e => by
      have e2 := (ml2i_0 w).1 e
      have := low_at hl
      rw [ml2i_n, e2] at this
      simp at this
    rw [if_pos hz]
    refine bdk (ntz32 hl) rfl
  · obtain ⟨d, rfl⟩ : ∃ d, t = 32 + d := ⟨t - 32, by omega⟩
    have h1 := h.1
    have h2 := h.2
    rw [Nat.pow_add] at h1 h2
    have z : w.toNat % 2 ^ 32 = 0 := by rw [← Nat.mod_mul_right_mod _ _ (2 ^ d), h1]
    have hl : Low (Int64.ofBitVec (mlushr w 32)).toInt32.toBitVec.toNat d := by
      rw [ml2i_n, sh32, Nat.mod_eq_of_lt (by omega)]
      exact ⟨by rw [← Nat.mod_mul_right_div_self, h1], by rw [Nat.div_div_eq_div_mul]; exact h2⟩
    rw [if_neg (fun e => e ((ml2i_0 w).2 z))]
    refine bdk (ntz32 hl) ?_
    show some (mw (32 + (d : Int))) = _
    rw [mw_of (by omega) (by omega)]
    congr 1
/-- the highest bit that is set -/
def High (n t : Nat) : Prop := 2 ^ t ≤ n ∧ n < 2 ^ (t + 1)
theorem high_ex (n : Nat) (h : n ≠ 0) : ∃ t, High n t := ⟨n.log2, Nat.log2_self_le h, Nat.lt_log2_self⟩
theorem high_at {n t : Nat} (h : High n t) : n.testBit t = true := by
  have hp := Nat.two_pow_pos t
  have h2 := h.2
  rw [Nat.pow_succ] at h2
  have e : n / 2 ^ t = 1 := Nat.div_eq_of_lt_le (by have := h.1; omega) (by omega)
  simp [Nat.testBit_eq_decide_div_mod_eq, e]
theorem high_above {n t j : Nat} (h : High n t) (hj : t < j) : n.testBit j = false :=
  Nat.testBit_lt_two_pow (Nat.lt_of_lt_of_le h.2 (Nat.pow_le_pow_right (by decide) hj))
theorem high_lt {n t w : Nat} (h : High n t) (hn : n < 2 ^ w) : t < w := by
  refine Nat.lt_of_not_le fun q => ?_
  have := Nat.pow_le_pow_right (n := 2) (by decide) q
  have := h.1
  omega
theorem mushr_k {n k : Nat} (h : n < 2147483648) (hk : k < 32) : mushr (n : Int) (k : Int) = ((n / 2 ^ k : Nat) : Int) := by
  have am : ∀ k : Fin 32, ((((Int32.ofInt (k.1 : Nat)).toUInt32 &&& Int32.toUInt32 31).toBitVec % 32).toNat) = k.1 := by decide +kernel
  have e : mushr (n : Int) (k : Int) = ((Int32.ofInt (n : Int)).toBitVec >>> (((Int32.ofInt (k : Nat)).toUInt32 &&& Int32.toUInt32 31).toBitVec % 32)).toInt := rfl
  rw [e, BitVec.ushiftRight_eq', am ⟨k, hk⟩]
  have e2 : ((Int32.ofInt (n : Int)).toBitVec >>> k).toNat = n / 2 ^ k := by
    rw [BitVec.toNat_ushiftRight, Nat.shiftRight_eq_div_pow, Int32.toBitVec_ofInt, BitVec.toNat_ofInt, show ((n : Int) % ((2 ^ 32 : Nat) : Int)).toNat = n by omega]
  rw [BitVec.toInt_eq_toNat_of_lt (by rw [e2]; have := Nat.div_le_self n (2 ^ k); omega), e2]
theorem nlz32p {n t : Nat} {σ : mS} (hn : n < 2147483648) (h : High n t) : D_J6_numberOfLeadingZeros_0f7a4 (n : Int) σ = some (31 - (t : Int)) := by
  have ht : t < 31 := high_lt h (w := 31) hn
  have h1 := h.1
  have h2 := h.2
  have hpos : 0 < n := by have := Nat.two_pow_pos t; omega
  have g73 : ∀ (m : Nat) (y : Int), m < 2147483648 → D_J6_numberOfLeadingZeros_0f7a4_73 (m : Int) y σ = some (mw (y - ((m / 2 : Nat) : Int))) := by
    intro m y hm
    unfold D_J6_numberOfLeadingZeros_0f7a4_73
    rw [show (1 : Int) = ((1 : Nat) : Int) from rfl, mushr_k hm (by decide)]
  have g61 : ∀ (m : Nat) (y : Int), m < 2147483648 → D_J6_numberOfLeadingZeros_0f7a4_61 (m : Int) y σ = if m < 4 then some (mw (y - ((m / 2 : Nat) : Int))) else some (mw (mw (y + (-2)) - ((m / 4 / 2 : Nat) : Int))) := by
    intro m y hm
    unfold D_J6_numberOfLeadingZeros_0f7a4_61
    rw [g73 m y hm, show (2 : Int) = ((2 : Nat) : Int) from rfl, mushr_k hm (by decide), g73 _ _ (by omega)]
    by_cases q : m < 4
    · rw [if_pos q, if_pos (by omega)]
    · rw [if_neg q, if_neg (by omega)]
  have g48 : ∀ (m : Nat) (y : Int), m < 2147483648 → D_J6_numberOfLeadingZeros_0f7a4_48 (m : Int) y σ = if m < 16 then D_J6_numberOfLeadingZeros_0f7a4_61 (m : Int) y σ else D_J6_numberOfLeadingZeros_0f7a4_61 ((m / 16 : Nat) : Int) (mw (y + (-4))) σ := by
    intro m y hm
    unfold D_J6_numberOfLeadingZeros_0f7a4_48
    rw [show mushr (m : Int) 4 = _ from mushr_k (k := 4) hm (by decide)]
    by_cases q : m < 16
    · rw [if_pos q, if_pos (by omega)]
    · rw [if_neg q, if_neg (by omega)]
  have g33 : ∀ (m : Nat) (y : Int), m < 2147483648 → D_J6_numberOfLeadingZeros_0f7a4_33 (m : Int) y σ = if m < 256 then D_J6_numberOfLeadingZeros_0f7a4_48 (m : Int) y σ else D_J6_numberOfLeadingZeros_0f7a4_48 ((m / 256 : Nat) : Int) (mw (y + (-8))) σ := by
    intro m y hm
    unfold D_J6_numberOfLeadingZeros_0f7a4_33
    rw [show mushr (m : Int) 8 = _ from mushr_k (k := 8) hm (by decide)]
    by_cases q : m < 256
    · rw [if_pos q, if_pos (by omega)]
    · rw [if_neg q, if_neg (by omega)]
  have g0 : D_J6_numberOfLeadingZeros_0f7a4 (n : Int) σ = if n < 65536 then D_J6_numberOfLeadingZeros_0f7a4_33 (n : Int) 31 σ else D_J6_numberOfLeadingZeros_0f7a4_33 ((n / 65536 : Nat) : Int) 15 σ := by
    unfold D_J6_numberOfLeadingZeros_0f7a4
    rw [if_pos (by omega), show mushr (n : Int) 16 = _ from mushr_k (k := 16) hn (by decide)]
    by_cases q : n < 65536
    · rw [if_pos q, if_pos (by omega)]
    · rw [if_neg q, if_neg (by omega)]
      rfl
  have fin : ∀ (m d : Nat) (y : Int), 2 ^ d ≤ m → m < 2 ^ (d + 1) → d < 4 → y - 3 ≥ 0 → y ≤ 31 → D_J6_numberOfLeadingZeros_0f7a4_61 (m : Int) y σ = some (y - (d : Int)) := by
    intro m d y q1 q2 hd y0 y1
    have : d = 0 ∨ d = 1 ∨ d = 2 ∨ d = 3 := by omega
    rcases this with rfl | rfl | rfl | rfl
    · rw [g61 _ _ (by omega), if_pos (by omega), mw_of (by omega) (by omega)]
      congr 1
      omega
    · rw [g61 _ _ (by omega), if_pos (by omega), mw_of (by omega) (by omega)]
      congr 1
      omega
    · rw [g61 _ _ (by omega), if_neg (by omega), mw_of (x := y + (-2)) (by omega) (by omega), mw_of (by omega) (by omega)]
      congr 1
      omega
    · rw [g61 _ _ (by omega), if_neg (by omega), mw_of (x := y + (-2)) (by omega) (by omega), mw_of (by omega) (by omega)]
      congr 1
      omega
  have dv : ∀ (m d k : Nat), 2 ^ d ≤ m → m < 2 ^ (d + 1) → k ≤ d → 2 ^ (d - k) ≤ m / 2 ^ k ∧ m / 2 ^ k < 2 ^ (d - k + 1) := by
    intro m d k q1 q2 hk
    have hp := Nat.two_pow_pos k
    constructor
    · rw [Nat.le_div_iff_mul_le hp, ← Nat.pow_add, show d - k + k = d by omega]
      exact q1
    · rw [Nat.div_lt_iff_lt_mul hp, ← Nat.pow_add, show d - k + 1 + k = d + 1 by omega]
      exact q2
  have lv48 : ∀ (m d : Nat) (y : Int), 2 ^ d ≤ m → m < 2 ^ (d + 1) → d < 8 → y - 7 ≥ 0 → y ≤ 31 → D_J6_numberOfLeadingZeros_0f7a4_48 (m : Int) y σ = some (y - (d : Int)) := by
    intro m d y q1 q2 hd y0 y1
    have hb : 2 ^ (d + 1) ≤ 2 ^ 8 := Nat.pow_le_pow_right (by decide) (by omega)
    rw [g48 _ _ (by omega)]
    by_cases q : d < 4
    · have hb : 2 ^ (d + 1) ≤ 2 ^ 4 := Nat.pow_le_pow_right (by decide) (by omega)
      rw [if_pos (by omega)]
      exact fin m d y q1 q2 q (by omega) y1
    · have hb : 2 ^ 4 ≤ 2 ^ d := Nat.pow_le_pow_right (by decide) (by omega)
      obtain ⟨w1, w2⟩ := dv m d 4 q1 q2 (by omega)
      rw [if_neg (by omega), mw_of (by omega) (by omega), fin (m / 16) (d - 4) _ w1 w2 (by omega) (by omega) (by omega)]
      congr 1
      omega
  have lv33 : ∀ (m d : Nat) (y : Int), 2 ^ d ≤ m → m < 2 ^ (d + 1) → d < 16 → y - 15 ≥ 0 → y ≤ 31 → D_J6_numberOfLeadingZeros_0f7a4_33 (m : Int) y σ = some (y - (d : Int)) := by
    intro m d y q1 q2 hd y0 y1
    have hb : 2 ^ (d + 1) ≤ 2 ^ 16 := Nat.pow_le_pow_right (by decide) (by omega)
    rw [g33 _ _ (by omega)]
    by_cases q : d < 8
    · have hb : 2 ^ (d + 1) ≤ 2 ^ 8 := Nat.pow_le_pow_right (by decide) (by omega)
      rw [if_pos (by omega)]
      exact lv48 m d y q1 q2 q (by omega) y1
    · have hb : 2 ^ 8 ≤ 2 ^ d := Nat.pow_le_pow_right (by decide) (by omega)
      obtain ⟨w1, w2⟩ := dv m d 8 q1 q2 (by omega)
      rw [if_neg (by omega), mw_of (by omega) (by omega), lv48 (m / 256) (d - 8) _ w1 w2 (by omega) (by omega) (by omega)]
      congr 1
      omega
  rw [g0]
  by_cases q : t < 16
  · have hb : 2 ^ (t + 1) ≤ 2 ^ 16 := Nat.pow_le_pow_right (by decide) (by omega)
    rw [if_pos (by omega)]
    exact lv33 n t 31 h1 h2 q (by decide) (by decide)
  · have hb : 2 ^ 16 ≤ 2 ^ t := Nat.pow_le_pow_right (by decide) (by omega)
    obtain ⟨w1, w2⟩ := dv n t 16 h1 h2 (by omega)
    rw [if_neg (by omega), lv33 (n / 65536) (t - 16) 15 w1 w2 (by omega) (by decide) (by decide)]
    congr 1
    omega
theorem nlz32 {X : Int32} {t : Nat} {σ : mS} (h : High X.toBitVec.toNat t) : D_J6_numberOfLeadingZeros_0f7a4 X.toInt σ = some (31 - (t : Int)) := by
  have ht : t < 32 := high_lt h X.toBitVec.isLt
  by_cases q : t < 31
  · have hb : 2 ^ (t + 1) ≤ 2 ^ 31 := Nat.pow_le_pow_right (by decide) (by omega)
    have h2 := h.2
    have e : X.toInt = ((X.toBitVec.toNat : Nat) : Int) := by
      rw [← Int32.toInt_toBitVec]
      exact BitVec.toInt_eq_toNat_of_lt (by omega)
    rw [e]
    exact nlz32p (by omega) h
  · have e : t = 31 := by omega
    subst e
    have h1 := h.1
    have hneg : X.toInt < 0 := by
      rw [← Int32.toInt_toBitVec, BitVec.toInt_eq_toNat_cond, if_neg (by omega)]
      have := X.toBitVec.isLt
      omega
    unfold D_J6_numberOfLeadingZeros_0f7a4
    rw [if_neg (by omega), if_pos (by omega)]
    rfl
theorem nlz64 {w : BitVec 64} {t : Nat} {σ : mS} (h : High w.toNat t) : D_J13_numberOfLeadingZeros_95d88 w σ = some (63 - (t : Int)) := by
  have ht : t < 64 := high_lt h w.isLt
  have hlt := w.isLt
  have h1 := h.1
  have h2 := h.2
  have hp32 : (2 : Nat) ^ 32 = 4294967296 := rfl
  unfold D_J13_numberOfLeadingZeros_95d88
  by_cases q : t < 32
  · have hb : 2 ^ (t + 1) ≤ 2 ^ 32 := Nat.pow_le_pow_right (by decide) (by omega)
    have z : (mlushr w 32).toNat % 2 ^ 32 = 0 := by rw [sh32, Nat.div_eq_of_lt (by omega)]
    rw [if_neg (fun e => e ((ml2i_0 _).2 z))]
    refine bdk (nlz32 (X := (Int64.ofBitVec w).toInt32) (t := t) ?_) ?_
    · rw [ml2i_n, Nat.mod_eq_of_lt (by omega)]
      exact h
    · show some (mw (32 + (31 - (t : Int)))) = _
      rw [mw_of (by omega) (by omega)]
      congr 1
      omega
  · have hb : 2 ^ 32 ≤ 2 ^ t := Nat.pow_le_pow_right (by decide) (by omega)
    have hh : High (w.toNat / 2 ^ 32) (t - 32) := by
      constructor
      · rw [Nat.le_div_iff_mul_le (by decide), ← Nat.pow_add, show t - 32 + 32 = t by omega]
        exact h1
      · rw [Nat.div_lt_iff_lt_mul (by decide), ← Nat.pow_add, show t - 32 + 1 + 32 = t + 1 by omega]
        exact h2
    have hl : (Int64.ofBitVec (mlushr w 32)).toInt32.toBitVec.toNat = w.toNat / 2 ^ 32 := by rw [ml2i_n, sh32, Nat.mod_eq_of_lt (by omega)]
    have hz : ml2i (mlushr w 32) ≠ 0 := fun e => by
      have e1 := (ml2i_0 _).1 e
      rw [sh32, Nat.mod_eq_of_lt (by omega)] at e1
      have e2 := hh.1
      have e3 := Nat.two_pow_pos (t - 32)
      omega
    rw [if_pos hz]
    refine bdk (nlz32 (X := (Int64.ofBitVec (mlushr w 32)).toInt32) (t := t - 32) (by rw [hl]; exact hh)) ?_
    show some (31 - ((t - 32 : Nat) : Int)) = _
    congr 1
    omega
