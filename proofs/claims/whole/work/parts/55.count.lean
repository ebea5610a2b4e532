/-! THE PURE PART: counting, and the count of a word's bits -/
def ct (p : Nat → Bool) : Nat → Nat
  | 0 => 0
  | n + 1 => ct p n + (if p n = true then 1 else 0)
theorem ct_s (p : Nat → Bool) (n : Nat) : ct p (n + 1) = ct p n + (if p n = true then 1 else 0) := rfl
theorem ct_le (p : Nat → Bool) (n : Nat) : ct p n ≤ n := by
  induction n with
  | zero => exact Nat.le_refl 0
  | succ n ih => rw [ct_s]; split <;> omega
theorem ct_cong {p q : Nat → Bool} {n : Nat} (h : ∀ k, k < n → p k = q k) : ct p n = ct q n := by
  induction n with
  | zero => rfl
  | succ n ih => rw [ct_s, ct_s, ih (fun k hk => h k (by omega)), h n (by omega)]
theorem ct_add (p : Nat → Bool) (m n : Nat) : ct p (m + n) = ct p m + ct (fun k => p (m + k)) n := by
  induction n with
  | zero => rfl
  | succ n ih => rw [← Nat.add_assoc, ct_s, ct_s, ih, Nat.add_assoc]
theorem ct_mono {p : Nat → Bool} {m n : Nat} (h : m ≤ n) : ct p m ≤ ct p n := by
  obtain ⟨d, rfl⟩ := Nat.exists_eq_add_of_le h
  rw [ct_add]
  omega
theorem ct_0 {p : Nat → Bool} {n : Nat} : ct p n = 0 ↔ ∀ k, k < n → p k = false := by
  induction n with
  | zero => exact ⟨fun _ k hk => absurd hk (Nat.not_lt_zero k), fun _ => rfl⟩
  | succ n ih =>
    rw [ct_s]
    constructor
    · intro h k hk
      by_cases e : k = n
      · subst e
        cases q : p k
        · rfl
        · rw [q] at h; simp at h
      · exact ih.1 (by omega) k (by omega)
    · intro h
      rw [ih.2 (fun k hk => h k (by omega)), h n (by omega)]
      rfl
theorem ct_pos {p : Nat → Bool} {n k : Nat} (hk : k < n) (h : p k = true) : 0 < ct p n := by
  rcases Nat.eq_zero_or_pos (ct p n) with e | e
  · rw [ct_0.1 e k hk] at h; cases h
  · exact e
theorem ct_ex {p : Nat → Bool} {n : Nat} (h : ct p n ≠ 0) : ∃ k, k < n ∧ p k = true := by
  induction n with
  | zero => exact absurd rfl h
  | succ n ih =>
    cases q : p n
    · rw [ct_s, q] at h
      obtain ⟨k, h1, h2⟩ := ih (by simpa using h)
      exact ⟨k, by omega, h2⟩
    · exact ⟨n, by omega, q⟩
theorem ct_split (p q : Nat → Bool) (n : Nat) : ct p n = ct (fun k => p k && q k) n + ct (fun k => p k && !q k) n := by
  induction n with
  | zero => rfl
  | succ n ih => rw [ct_s, ct_s, ct_s, ih]; cases p n <;> cases q n <;> simp <;> omega
theorem ct_full {p : Nat → Bool} {n : Nat} : ct p n = n ↔ ∀ k, k < n → p k = true := by
  induction n with
  | zero => exact ⟨fun _ k hk => absurd hk (Nat.not_lt_zero k), fun _ => rfl⟩
  | succ n ih =>
    rw [ct_s]
    have hl := ct_le p n
    constructor
    · intro h k hk
      cases q : p n
      · rw [q] at h; simp at h; omega
      · rw [q, if_pos rfl] at h
        by_cases e : k = n
        · rw [e]; exact q
        · exact ih.1 (by omega) k (by omega)
    · intro h
      rw [ih.2 (fun k hk => h k (by omega)), h n (by omega), if_pos rfl]
/-- digits of eight bits -/
def dgS : (Nat → Nat) → Nat → Nat
  | _, 0 => 0
  | f, n + 1 => f 0 + 256 * dgS (fun i => f (i + 1)) n
theorem dgS_bit : ∀ (n : Nat) (f : Nat → Nat) (p : Nat), (∀ i, f i < 256) → (dgS f n).testBit p = (decide (p / 8 < n) && (f (p / 8)).testBit (p % 8)) := by
  intro n
  induction n with
  | zero =>
    intro f p _
    show Nat.testBit 0 p = _
    simp
  | succ n ih =>
    intro f p h
    show (f 0 + 256 * dgS (fun i => f (i + 1)) n).testBit p = _
    rw [Nat.add_comm, show 256 * dgS (fun i => f (i + 1)) n + f 0 = 2 ^ 8 * dgS (fun i => f (i + 1)) n + f 0 from rfl, Nat.testBit_two_pow_mul_add _ (show f 0 < 2 ^ 8 from h 0)]
    by_cases q : p < 8
    · rw [if_pos q, Nat.div_eq_of_lt q, Nat.mod_eq_of_lt q]
      simp
    · rw [if_neg q, ih _ _ (fun i => h (i + 1))]
      obtain ⟨r, rfl⟩ : ∃ r, p = r + 8 := ⟨p - 8, by omega⟩
      rw [show r + 8 - 8 = r by omega, show (r + 8) / 8 = r / 8 + 1 by omega, show (r + 8) % 8 = r % 8 by omega]
      congr 1
      simp only [decide_eq_decide]
      omega
theorem dgS_mask {f : Nat → Nat} {m s : Nat} (hf : ∀ i, f i < 256) (hm : ∀ r, m.testBit r = true → r + s < 8) : (dgS f 8 >>> s) &&& dgS (fun _ => m) 8 = dgS (fun i => (f i >>> s) &&& m) 8 := by
  have hm8 : m < 256 := by
    rcases Nat.lt_or_ge m 256 with q | q
    · exact q
    · exfalso
      obtain ⟨k, k1, k2⟩ := Nat.exists_ge_and_testBit_of_ge_two_pow (n := 8) q
      have := hm k k2
      omega
  have hx : ∀ i, (f i >>> s) &&& m < 256 := fun i => Nat.lt_of_le_of_lt Nat.and_le_right hm8
  apply Nat.eq_of_testBit_eq
  intro p
  rw [Nat.testBit_and, Nat.testBit_shiftRight, dgS_bit _ _ _ hf, dgS_bit _ _ _ (fun _ => hm8), dgS_bit _ _ _ hx, Nat.testBit_and, Nat.testBit_shiftRight]
  cases q : m.testBit (p % 8)
  · simp
  · have := hm _ q
    rw [show (s + p) / 8 = p / 8 by omega, show (s + p) % 8 = s + p % 8 by omega]
    cases decide (p / 8 < 8) <;> simp
theorem dg_m5 : (6148914691236517205 : Nat) = dgS (fun _ => 85) 8 := by decide
theorem dg_m3 : (3689348814741910323 : Nat) = dgS (fun _ => 51) 8 := by decide
theorem dg_mf : (1085102592571150095 : Nat) = dgS (fun _ => 15) 8 := by decide
theorem mk5 : ∀ r, Nat.testBit 85 r = true → r + 1 < 8 := by
  intro r h
  by_cases q : r < 8
  · exact (by decide : ∀ r, r < 8 → Nat.testBit 85 r = true → r + 1 < 8) r q h
  · rw [Nat.testBit_lt_two_pow (Nat.lt_of_lt_of_le (by decide : 85 < 2 ^ 8) (Nat.pow_le_pow_right (by decide) (by omega)))] at h; cases h
theorem mk3 : ∀ r, Nat.testBit 51 r = true → r + 2 < 8 := by
  intro r h
  by_cases q : r < 8
  · exact (by decide : ∀ r, r < 8 → Nat.testBit 51 r = true → r + 2 < 8) r q h
  · rw [Nat.testBit_lt_two_pow (Nat.lt_of_lt_of_le (by decide : 51 < 2 ^ 8) (Nat.pow_le_pow_right (by decide) (by omega)))] at h; cases h
theorem mk15 : ∀ r, Nat.testBit 15 r = true → r + 0 < 8 := by
  intro r h
  by_cases q : r < 8
  · exact q
  · rw [Nat.testBit_lt_two_pow (Nat.lt_of_lt_of_le (by decide : 15 < 2 ^ 8) (Nat.pow_le_pow_right (by decide) (by omega)))] at h; cases h
theorem mk30 : ∀ r, Nat.testBit 51 r = true → r + 0 < 8 := fun r h => by have := mk3 r h; omega
def b1 (b : Nat) : Nat := b - ((b >>> 1) &&& 85)
def b2 (b : Nat) : Nat := ((b1 b >>> 0) &&& 51) + ((b1 b >>> 2) &&& 51)
def b3 (b : Nat) : Nat := (b2 b + b2 b / 16) % 16
theorem b_all : ∀ b : Fin 256, (b.1 >>> 1) &&& 85 ≤ b.1 ∧ b1 b.1 < 256 ∧ b2 b.1 % 16 ≤ 4 ∧ b2 b.1 / 16 ≤ 4 ∧ b3 b.1 = ct (fun r => b.1.testBit r) 8 := by decide +kernel
theorem dgS_s (f : Nat → Nat) (n : Nat) : dgS f (n + 1) = f 0 + 256 * dgS (fun i => f (i + 1)) n := rfl
theorem dgS_add : ∀ (n : Nat) (f g : Nat → Nat), dgS f n + dgS g n = dgS (fun i => f i + g i) n := by
  intro n
  induction n with
  | zero => intro f g; rfl
  | succ n ih =>
    intro f g
    have := ih (fun i => f (i + 1)) (fun i => g (i + 1))
    rw [dgS_s, dgS_s, dgS_s, ← this]
    omega
theorem dgS_cong : ∀ (n : Nat) (f g : Nat → Nat), (∀ i, i < n → f i = g i) → dgS f n = dgS g n := by
  intro n
  induction n with
  | zero => intro f g _; rfl
  | succ n ih =>
    intro f g h
    rw [dgS_s, dgS_s, h 0 (by omega), ih (fun i => f (i + 1)) (fun i => g (i + 1)) (fun i hi => h (i + 1) (by omega))]
theorem dgS_end : ∀ (n : Nat) (f : Nat → Nat), f n = 0 → dgS f (n + 1) = dgS f n := by
  intro n
  induction n with
  | zero => intro f h; rw [dgS_s, h]; rfl
  | succ n ih =>
    intro f h
    rw [dgS_s, ih (fun i => f (i + 1)) h]
    rfl
theorem dgS_sh {f : Nat → Nat} {n : Nat} (h : f 0 < 256) : dgS f (n + 1) / 256 = dgS (fun i => f (i + 1)) n := by
  rw [dgS_s]
  omega
theorem dgS_sh8 {f : Nat → Nat} (h : ∀ i, f i < 256) (h8 : ∀ i, 8 ≤ i → f i = 0) : ∀ j, dgS f 8 / 256 ^ j = dgS (fun i => f (i + j)) 8 := by
  intro j
  induction j with
  | zero => rw [Nat.pow_zero, Nat.div_one]; rfl
  | succ j ih =>
    rw [Nat.pow_succ, ← Nat.div_div_eq_div_mul, ih, show dgS (fun i => f (i + j)) 8 / 256 = dgS (fun i => f (i + 1 + j)) 7 from dgS_sh (n := 7) (f := fun i => f (i + j)) (h _)]
    have := dgS_end 7 (fun i => f (i + 1 + j)) (h8 _ (by omega))
    rw [← this]
    refine dgS_cong 8 _ _ (fun i _ => ?_)
    rw [show i + 1 + j = i + (j + 1) by omega]
theorem dgS_16 : ∀ (n : Nat) (e : Nat → Nat), (∀ i, e i < 256) → dgS e n / 16 = dgS (fun i => e i / 16 + 16 * ((if i + 1 < n then e (i + 1) else 0) % 16)) n := by
  intro n
  induction n with
  | zero => intro e _; exact Nat.zero_div 16
  | succ n ih =>
    intro e h
    have i1 := ih (fun i => e (i + 1)) (fun i => h (i + 1))
    rw [dgS_s, dgS_s]
    have e1 : dgS (fun i => e (i + 1) / 16 + 16 * ((if i + 1 + 1 < n + 1 then e (i + 1 + 1) else 0) % 16)) n = dgS (fun i => e (i + 1)) n / 16 := by
      rw [i1]
      refine dgS_cong n _ _ (fun i hi => ?_)
      by_cases q : i + 1 < n
      · rw [if_pos q, if_pos (by omega)]
      · rw [if_neg q, if_neg (by omega)]
    rw [e1]
    have e2 : (if 0 + 1 < n + 1 then e (0 + 1) else 0) % 16 = dgS (fun i => e (i + 1)) n % 16 := by
      cases n with
      | zero => rfl
      | succ n =>
        rw [if_pos (by omega), dgS_s]
        omega
    rw [e2]
    generalize dgS (fun i => e (i + 1)) n = K
    omega
theorem bc_fin {x : Nat} (hx : x < 2 ^ 64) : ∃ g : Nat → Nat, (∀ i, g i ≤ 8) ∧ (∀ i, 8 ≤ i → g i = 0) ∧ ct (fun i => x.testBit i) 64 = g 0 + g 1 + g 2 + g 3 + g 4 + g 5 + g 6 + g 7 ∧
    (let y := x - ((x >>> 1) &&& 6148914691236517205)
     let z := (y &&& 3689348814741910323) + ((y >>> 2) &&& 3689348814741910323)
     (x >>> 1) &&& 6148914691236517205 ≤ x ∧ z + z / 16 < 2 ^ 64 ∧ (z + z / 16) &&& 1085102592571150095 = dgS g 8) := by
  have hb : ∀ i, x / 256 ^ i % 256 < 256 := fun i => Nat.mod_lt _ (by decide)
  have hx2 : ∀ n, x % 256 ^ n = dgS (fun i => x / 256 ^ i % 256) n := by
    have gen : ∀ n (x : Nat), x % 256 ^ n = dgS (fun i => x / 256 ^ i % 256) n := by
      intro n
      induction n with
      | zero => intro x; rw [Nat.pow_zero, Nat.mod_one]; rfl
      | succ n ih =>
        intro x
        rw [dgS_s, Nat.pow_zero, Nat.div_one, Nat.pow_succ, Nat.mul_comm, Nat.mod_mul, ih (x / 256)]
        congr 2
        refine dgS_cong n _ _ (fun i _ => ?_)
        rw [Nat.pow_succ, Nat.mul_comm (256 ^ i), ← Nat.div_div_eq_div_mul]
    exact fun n => gen n x
  have hx3 := hx2 8
  rw [Nat.mod_eq_of_lt (show x < 256 ^ 8 from hx)] at hx3
  have hd0 : ∀ i, 8 ≤ i → x / 256 ^ i % 256 = 0 := fun i hi => by
    rw [Nat.div_eq_of_lt (Nat.lt_of_lt_of_le hx (show 256 ^ 8 ≤ 256 ^ i from Nat.pow_le_pow_right (by decide) hi))]
  generalize hd : (fun i => x / 256 ^ i % 256) = d at hx3
  have hd8 : ∀ i, d i < 256 := fun i => by rw [← hd]; exact hb i
  have hdz : ∀ i, 8 ≤ i → d i = 0 := fun i hi => by rw [← hd]; exact hd0 i hi
  have fa : ∀ i, (d i >>> 1) &&& 85 ≤ d i ∧ b1 (d i) < 256 ∧ b2 (d i) % 16 ≤ 4 ∧ b2 (d i) / 16 ≤ 4 ∧ b3 (d i) = ct (fun r => (d i).testBit r) 8 := fun i => b_all ⟨d i, hd8 i⟩
  have hg : ∀ i, b3 (d i) ≤ 8 := fun i => by rw [(fa i).2.2.2.2]; exact ct_le _ 8
  have hct : ∀ i, i < 8 → ct (fun r => x.testBit (8 * i + r)) 8 = b3 (d i) := fun i hi => by
    rw [(fa i).2.2.2.2]
    refine ct_cong fun r hr => ?_
    conv => lhs; rw [hx3]
    rw [dgS_bit 8 d _ hd8, show (8 * i + r) / 8 = i by omega, show (8 * i + r) % 8 = r by omega]
    simp [hi]
  have e1 : (x >>> 1) &&& 6148914691236517205 = dgS (fun i => (d i >>> 1) &&& 85) 8 := by
    conv => lhs; rw [hx3]
    rw [dg_m5]
    exact dgS_mask hd8 mk5
  have ea : dgS (fun i => b1 (d i)) 8 + (x >>> 1 &&& 6148914691236517205) = x := by
    rw [e1, dgS_add]
    conv => rhs; rw [hx3]
    refine dgS_cong 8 _ _ (fun i _ => ?_)
    have := (fa i).1
    unfold b1
    omega
  have e2 : x - ((x >>> 1) &&& 6148914691236517205) = dgS (fun i => b1 (d i)) 8 := by omega
  have e3 : dgS (fun i => b1 (d i)) 8 &&& 3689348814741910323 = dgS (fun i => (b1 (d i) >>> 0) &&& 51) 8 := by
    have := dgS_mask (f := fun i => b1 (d i)) (m := 51) (s := 0) (fun i => (fa i).2.1) mk30
    rw [← dg_m3] at this
    exact this
  have e4 : (dgS (fun i => b1 (d i)) 8 >>> 2) &&& 3689348814741910323 = dgS (fun i => (b1 (d i) >>> 2) &&& 51) 8 := by
    have := dgS_mask (f := fun i => b1 (d i)) (m := 51) (s := 2) (fun i => (fa i).2.1) mk3
    rw [← dg_m3] at this
    exact this
  have e5 : dgS (fun i => (b1 (d i) >>> 0) &&& 51) 8 + dgS (fun i => (b1 (d i) >>> 2) &&& 51) 8 = dgS (fun i => b2 (d i)) 8 := dgS_add 8 _ _
  refine ⟨fun i => b3 (d i), hg, fun i hi => by show b3 (d i) = 0; rw [hdz i hi]; decide, ?_, ?_⟩
  · have s0 := ct_add (fun i => x.testBit i) 56 8
    have s1 := ct_add (fun i => x.testBit i) 48 8
    have s2 := ct_add (fun i => x.testBit i) 40 8
    have s3 := ct_add (fun i => x.testBit i) 32 8
    have s4 := ct_add (fun i => x.testBit i) 24 8
    have s5 := ct_add (fun i => x.testBit i) 16 8
    have s6 := ct_add (fun i => x.testBit i) 8 8
    have s7 := ct_add (fun i => x.testBit i) 0 8
    have t0 := hct 7 (by decide)
    have t1 := hct 6 (by decide)
    have t2 := hct 5 (by decide)
    have t3 := hct 4 (by decide)
    have t4 := hct 3 (by decide)
    have t5 := hct 2 (by decide)
    have t6 := hct 1 (by decide)
    have t7 := hct 0 (by decide)
    have z : ct (fun i => x.testBit i) 0 = 0 := rfl
    simp only [Nat.reduceMul, Nat.reduceAdd] at s0 s1 s2 s3 s4 s5 s6 s7 t0 t1 t2 t3 t4 t5 t6 t7
    show _ = b3 (d 0) + b3 (d 1) + b3 (d 2) + b3 (d 3) + b3 (d 4) + b3 (d 5) + b3 (d 6) + b3 (d 7)
    omega
  · show _ ≤ _ ∧ _
    refine ⟨by omega, ?_⟩
    simp only [e2, e3, e4, e5]
    generalize he : (fun i => b2 (d i)) = e
    have he2 : ∀ i, b2 (d i) = e i := fun i => by rw [← he]
    have fe : ∀ i, e i % 16 ≤ 4 ∧ e i / 16 ≤ 4 := fun i => by rw [← he2]; exact ⟨(fa i).2.2.1, (fa i).2.2.2.1⟩
    have eb : ∀ i, b3 (d i) = (e i + e i / 16) % 16 := fun i => by rw [← he2]; rfl
    have ez : dgS e 8 + dgS e 8 / 16 = dgS (fun i => e i + (e i / 16 + 16 * ((if i + 1 < 8 then e (i + 1) else 0) % 16))) 8 := by
      rw [dgS_16 8 e (fun i => by have := fe i; omega), dgS_add]
    have hD : ∀ i, e i + (e i / 16 + 16 * ((if i + 1 < 8 then e (i + 1) else 0) % 16)) < 256 := fun i => by
      have f0 := fe i
      have f1 := fe (i + 1)
      split <;> omega
    have hm := dgS_mask (f := fun i => e i + (e i / 16 + 16 * ((if i + 1 < 8 then e (i + 1) else 0) % 16))) (m := 15) (s := 0) hD mk15
    rw [← dg_mf, ← ez] at hm
    have hv : ∀ i, (e i + (e i / 16 + 16 * ((if i + 1 < 8 then e (i + 1) else 0) % 16))) >>> 0 &&& 15 = b3 (d i) := fun i => by
      rw [eb, Nat.shiftRight_zero, show (15 : Nat) = 2 ^ 4 - 1 from rfl, Nat.and_two_pow_sub_one_eq_mod]
      omega
    refine ⟨?_, ?_⟩
    · rw [ez]
      have bnd : ∀ n (f : Nat → Nat), (∀ i, f i < 256) → dgS f n < 256 ^ n := by
        intro n
        induction n with
        | zero => intro f _; exact Nat.zero_lt_one
        | succ n ih =>
          intro f h
          have := ih (fun i => f (i + 1)) (fun i => h (i + 1))
          have h0 := h 0
          rw [dgS_s, Nat.pow_succ]
          omega
      exact bnd 8 _ hD
    · refine Eq.trans hm ?_
      simp only [hv]
theorem bitCount_k (w : BitVec 64) (σ : mS) : D_J13_bitCount_95d88 w σ = some ((ct (fun i => w.getLsbD i) 64 : Nat) : Int) := by
  obtain ⟨g, hg, hgz, hc, hle, hz, hv⟩ := bc_fin w.isLt
  have sh : ∀ (x : BitVec 64) (k : Nat), k < 64 → mlushr x (k : Int) = x >>> k := fun x k hk => mlushr_k hk
  unfold D_J13_bitCount_95d88
  rw [show (1 : Int) = ((1 : Nat) : Int) from rfl, show (2 : Int) = ((2 : Nat) : Int) from rfl, show (4 : Int) = ((4 : Nat) : Int) from rfl, show (8 : Int) = ((8 : Nat) : Int) from rfl, show (16 : Int) = ((16 : Nat) : Int) from rfl, show (32 : Int) = ((32 : Nat) : Int) from rfl]
  rw [sh _ 1 (by decide), sh _ 2 (by decide), sh _ 4 (by decide), sh _ 8 (by decide), sh _ 16 (by decide), sh _ 32 (by decide)]
  generalize hA : w - (w >>> 1 &&& 6148914691236517205#64) = A
  generalize hB : (A &&& 3689348814741910323#64) + (A >>> 2 &&& 3689348814741910323#64) = B
  generalize hC : (B + B >>> 4) &&& 1085102592571150095#64 = C
  have nA : A.toNat = w.toNat - ((w.toNat >>> 1) &&& 6148914691236517205) := by
    rw [← hA, BitVec.toNat_sub, BitVec.toNat_and, BitVec.toNat_ushiftRight]
    have := w.isLt
    show (2 ^ 64 - ((w.toNat >>> 1) &&& 6148914691236517205) + w.toNat) % 2 ^ 64 = _
    omega
  have nC : C.toNat = dgS g 8 := by
    have nB : B.toNat = ((A.toNat &&& 3689348814741910323) + ((A.toNat >>> 2) &&& 3689348814741910323)) := by
      rw [← hB, BitVec.toNat_add, BitVec.toNat_and, BitVec.toNat_and, BitVec.toNat_ushiftRight, nA]
      refine Nat.mod_eq_of_lt ?_
      show _ + _ < _
      exact Nat.lt_of_le_of_lt (Nat.le_add_right _ _) hz
    rw [← hC, BitVec.toNat_and, BitVec.toNat_add, BitVec.toNat_ushiftRight, Nat.shiftRight_eq_div_pow, nB, nA]
    rw [Nat.mod_eq_of_lt hz]
    exact hv
  have bnd : ∀ n (f : Nat → Nat), (∀ i, f i < 256) → dgS f n < 256 ^ n := by
    intro n
    induction n with
    | zero => intro f _; exact Nat.zero_lt_one
    | succ n ih =>
      intro f h
      have := ih (fun i => f (i + 1)) (fun i => h (i + 1))
      have h0 := h 0
      rw [dgS_s, Nat.pow_succ]
      omega
  have st1 : ∀ (x : BitVec 64) (f : Nat → Nat) (m : Nat) (k : Nat), x.toNat = dgS f 8 → (∀ i, f i ≤ m) → m ≤ 64 → (∀ i, 8 ≤ i → f i = 0) → (x + x >>> (8 * k)).toNat = dgS (fun i => f i + f (i + k)) 8 := by
    intro x f m k h1 h2 h3 h4
    rw [BitVec.toNat_add, BitVec.toNat_ushiftRight, Nat.shiftRight_eq_div_pow, Nat.pow_mul, show (2 ^ 8 : Nat) = 256 from rfl, h1, dgS_sh8 (fun i => by have := h2 i; omega) h4, dgS_add]
    refine Nat.mod_eq_of_lt ?_
    exact bnd 8 _ (fun i => by have a := h2 i; have b := h2 (i + k); show f i + f (i + k) < 256; omega)
  generalize hE : C + C >>> 8 = E
  generalize hF : E + E >>> 16 = F
  have nE : E.toNat = dgS (fun i => g i + g (i + 1)) 8 := by rw [← hE]; exact st1 C g 8 1 nC hg (by decide) hgz
  have nF := st1 E _ 16 2 nE (fun i => by have a := hg i; have b := hg (i + 1); show g i + g (i + 1) ≤ 16; omega) (by decide) (fun i hi => by show g i + g (i + 1) = 0; rw [hgz i hi, hgz (i + 1) (by omega)])
  rw [show E + E >>> (8 * 2) = F from hF] at nF
  have nG := st1 F _ 32 4 nF (fun i => by have a := hg i; have b := hg (i + 1); have c := hg (i + 2); have d := hg (i + 2 + 1); show g i + g (i + 1) + (g (i + 2) + g (i + 2 + 1)) ≤ 32; omega) (by decide) (fun i hi => by
    show g i + g (i + 1) + (g (i + 2) + g (i + 2 + 1)) = 0
    rw [hgz i hi, hgz (i + 1) (by omega), hgz (i + 2) (by omega), hgz (i + 2 + 1) (by omega)])
  rw [show F + F >>> (8 * 4) = F + F >>> 32 from rfl] at nG
  have nM : (F + F >>> 32).toNat % 4294967296 < 2147483648 ∧ (F + F >>> 32).toNat % 128 = g 0 + g 1 + g 2 + g 3 + g 4 + g 5 + g 6 + g 7 := by
    rw [nG]
    generalize hh : (fun i => g i + g (i + 1) + (g (i + 2) + g (i + 2 + 1)) + (g (i + 4) + g (i + 4 + 1) + (g (i + 4 + 2) + g (i + 4 + 2 + 1)))) = h
    have h0 : h 0 = g 0 + g 1 + (g 2 + g 3) + (g 4 + g 5 + (g 6 + g 7)) := by rw [← hh]
    have hb : ∀ i, h i ≤ 64 := fun i => by
      rw [← hh]
      have a0 := hg i
      have a1 := hg (i + 1)
      have a2 := hg (i + 2)
      have a3 := hg (i + 2 + 1)
      have a4 := hg (i + 4)
      have a5 := hg (i + 4 + 1)
      have a6 := hg (i + 4 + 2)
      have a7 := hg (i + 4 + 2 + 1)
      show g i + g (i + 1) + (g (i + 2) + g (i + 2 + 1)) + (g (i + 4) + g (i + 4 + 1) + (g (i + 4 + 2) + g (i + 4 + 2 + 1))) ≤ 64
      omega
    have eS : dgS h 8 = h 0 + 256 * (h 1 + 256 * (h 2 + 256 * (h 3 + 256 * dgS (fun i => h (i + 1 + 1 + 1 + 1)) 4))) := rfl
    rw [eS]
    generalize dgS (fun i => h (i + 1 + 1 + 1 + 1)) 4 = K
    have b0 := hb 0
    have b1 := hb 1
    have b2 := hb 2
    have b3 := hb 3
    generalize h 0 = u0 at *
    generalize h 1 = u1 at *
    generalize h 2 = u2 at *
    generalize h 3 = u3 at *
    constructor
    · omega
    · rw [show u0 + 256 * (u1 + 256 * (u2 + 256 * (u3 + 256 * K))) = u0 + 128 * (2 * (u1 + 256 * (u2 + 256 * (u3 + 256 * K)))) by omega, Nat.add_mul_mod_self_left]
      omega
  have e : ml2i (F + F >>> 32) = (((F + F >>> 32).toNat % 4294967296 : Nat) : Int) := by
    unfold ml2i
    rw [← Int32.toInt_toBitVec, BitVec.toInt_eq_toNat_of_lt (by rw [ml2i_n]; omega), ml2i_n]
  rw [e, show (127 : Int) = ((127 : Nat) : Int) from rfl, mand_mask (k := 7) nM.1 rfl (by decide)]
  have hc2 : ct (fun i => w.getLsbD i) 64 = g 0 + g 1 + g 2 + g 3 + g 4 + g 5 + g 6 + g 7 := hc
  rw [hc2]
  have m1 : (F + F >>> 32).toNat % 4294967296 % 2 ^ 7 = (F + F >>> 32).toNat % 128 := Nat.mod_mod_of_dvd _ ⟨33554432, rfl⟩
  rw [m1, nM.2]
