/-! THE PURE PART: feed, on both sides -/
/-- a number's bytes, the highest first -/
def byt (x : Int) (i : Nat) : Int := mand (mushr x (24 - 8 * (i : Int))) 255
theorem bv_and255 (w : BitVec 32) : mand w.toInt 255 = ((w.toNat % 256 : Nat) : Int) := by
  have e : Int32.ofInt w.toInt = ⟨⟨w⟩⟩ := by
    apply Int32.toInt_inj.1
    rw [Int32.toInt_ofInt_of_le (by have := w.le_toInt; simp at this; omega) (by have := w.toInt_lt; simp at this; omega)]
    rfl
  unfold mand
  rw [e]
  show (w &&& 255#32).toInt = _
  have h : (w &&& 255#32).toNat = w.toNat % 256 := by
    rw [BitVec.toNat_and]
    exact Nat.and_two_pow_sub_one_eq_mod w.toNat 8
  rw [BitVec.toInt_eq_toNat_of_lt (by rw [h]; omega), h]
theorem mi2b_k {z : Int} (h : mIn z) : mi2b z = z.bmod 256 := by
  unfold mi2b
  rw [Int8.toInt_toInt32, Int32.toInt_toInt8, oi_to h]
theorem byt_of {x : Int} {k : Nat} (hx : mIn x) (hk : k = 0 ∨ k = 8 ∨ k = 16 ∨ k = 24) (h1 : mushr x (k : Int) = ((Int32.ofInt x).toBitVec >>> k).toInt) (h2 : mshr x (k : Int) = ((Int32.ofInt x).toBitVec.sshiftRight k).toInt) :
    (0 ≤ mand (mushr x (k : Int)) 255 ∧ mand (mushr x (k : Int)) 255 < 256) ∧ mi2b (mshr x (k : Int)) = sb (mand (mushr x (k : Int)) 255) := by
  have hv : (Int32.ofInt x).toBitVec.toInt = x := oi_to hx
  generalize (Int32.ofInt x).toBitVec = v at hv h1 h2
  have r1 : mand (mushr x (k : Int)) 255 = (((v >>> k).toNat % 256 : Nat) : Int) := by rw [h1]; exact bv_and255 _
  have r0 : ∀ w : BitVec 32, mIn w.toInt := fun w => by
    have a1 := w.le_toInt
    have a2 := w.toInt_lt
    simp at a1 a2
    exact ⟨by omega, by omega⟩
  have r2 : mIn (mshr x (k : Int)) := by rw [h2]; exact r0 _
  have r3 : mi2b (mshr x (k : Int)) = (x >>> k).bmod 256 := by
    rw [mi2b_k r2, h2, BitVec.toInt_sshiftRight, hv]
  have hn : v.toInt = if 2 * v.toNat < 4294967296 then (v.toNat : Int) else (v.toNat : Int) - 4294967296 := by
    rw [BitVec.toInt_eq_toNat_cond]
    rfl
  rw [hv] at hn
  have hlt : v.toNat < 4294967296 := v.isLt
  rw [r1, r3, BitVec.toNat_ushiftRight, Nat.shiftRight_eq_div_pow, Int.shiftRight_eq_div_pow]
  refine ⟨by omega, ?_⟩
  unfold sb
  rw [Int.bmod_def]
  generalize v.toNat = N at hn hlt
  rcases hk with rfl | rfl | rfl | rfl
  · simp only [Nat.pow_zero, Nat.div_one, Int.natCast_one, Int.ediv_one]
    omega
  · have e : (2 : Nat) ^ 8 = 256 := rfl
    rw [e]
    omega
  · have e : (2 : Nat) ^ 16 = 65536 := rfl
    rw [e]
    omega
  · have e : (2 : Nat) ^ 24 = 16777216 := rfl
    rw [e]
    omega
theorem byt_k {x : Int} (hx : mIn x) {i : Nat} (hi : i < 4) : (0 ≤ byt x i ∧ byt x i < 256) ∧ mi2b (mshr x (24 - 8 * (i : Int))) = sb (byt x i) := by
  unfold byt
  have : i = 0 ∨ i = 1 ∨ i = 2 ∨ i = 3 := by omega
  rcases this with rfl | rfl | rfl | rfl
  · exact byt_of (k := 24) hx (by omega) rfl rfl
  · exact byt_of (k := 16) hx (by omega) rfl rfl
  · exact byt_of (k := 8) hx (by omega) rfl rfl
  · exact byt_of (k := 0) hx (by omega) rfl rfl
section FD
variable {n : Nat} {c : Nat × Nat × Nat × Nat} {I : Nat → Nat → Int} {W : Nat → Nat → BitVec 64} {p : Nat → Nat} {s : Sp}
theorem mw_sh {j : Nat} (h : j < 4) : mw (24 - 8 * (j : Int) + -8) = 24 - 8 * ((j + 1 : Nat) : Int) := by
  rw [mw_of (by omega) (by omega)]
  omega
theorem x8_fn3 {x : Int} {t : Nat} (ht : t + 4 ≤ 500) : ∀ (d j f : Nat) (I1 : Nat → Nat → Int), j + d = 4 → d < f → I1 32 5 = ((t + j : Nat) : Int) →
    ∃ I', D_X8_feedNumber_3 f 32 x (24 - 8 * (j : Int)) (st true n c I1 W p) = some (st true n c I' W p) ∧ I' 32 5 = ((t + 4 : Nat) : Int) ∧ (∀ i, j ≤ i → i < 4 → I' 109 (t + i) = byt x i) ∧ Fr (fun b k => (b = 109 ∧ t + j ≤ k ∧ k < t + 4) ∨ (b = 32 ∧ k = 5)) I1 I' := by
  intro d
  induction d with
  | zero =>
    intro j f I1 hj hf h5
    obtain ⟨f, rfl⟩ : ∃ g, f = g + 1 := ⟨f - 1, by omega⟩
    exact ⟨I1, if_pos (by omega), by rw [h5]; congr 1; omega, fun i i1 i2 => by omega, Fr.rfl'⟩
  | succ d ih =>
    intro j f I1 hj hf h5
    obtain ⟨f, rfl⟩ : ∃ g, f = g + 1 := ⟨f - 1, by omega⟩
    obtain ⟨I', e, g5, g1, g2⟩ := ih (j + 1) f (u2 (u2 I1 109 (t + j) (byt x j)) 32 5 ((t + (j + 1) : Nat) : Int)) (by omega) (by omega) (by rw [u2_eq])
    refine ⟨I', ?_, g5, fun i i1 i2 => ?_, fun b k q => ?_⟩
    · show (if (24 - 8 * (j : Int)) < 0 then _ else _) = _
      rw [if_neg (by omega)]
      refine bdk z8R4 (bdk z8I ?_)
      rw [h5]
      refine bdk (z8S109 (by omega) (by omega)) (bdk z8I ?_)
      rw [toN, u2_ne _ _ (by omega), h5, mw_n (by omega), mw_sh (by omega)]
      exact bdk z8P e
    · by_cases z : i = j
      · subst z
        rw [g2 _ _ (by omega), u2_ne _ _ (by omega), u2_eq]
      · exact g1 i (by omega) i2
    · rw [g2 b k (by omega), u2_ne _ _ (by omega), u2_ne _ _ (by omega)]
theorem x9_pu3 {x : Int} {t : Nat} (hx : mIn x) (ht : t + 4 ≤ 500) : ∀ (d j f : Nat) (I1 : Nat → Nat → Int), j + d = 4 → d < f → I1 1170 37 = ((t + j : Nat) : Int) →
    ∃ I', D_X9_puts_3 f 1170 x (24 - 8 * (j : Int)) (st true n c I1 W p) = some (st true n c I' W p) ∧ I' 1170 37 = ((t + 4 : Nat) : Int) ∧ (∀ i, j ≤ i → i < 4 → I' 1221 (t + i) = sb (byt x i)) ∧ Fr (fun b k => (b = 1221 ∧ t + j ≤ k ∧ k < t + 4) ∨ (b = 1170 ∧ k = 37)) I1 I' := by
  intro d
  induction d with
  | zero =>
    intro j f I1 hj hf h5
    obtain ⟨f, rfl⟩ : ∃ g, f = g + 1 := ⟨f - 1, by omega⟩
    exact ⟨I1, if_pos (by omega), by rw [h5]; congr 1; omega, fun i i1 i2 => by omega, Fr.rfl'⟩
  | succ d ih =>
    intro j f I1 hj hf h5
    obtain ⟨f, rfl⟩ : ∃ g, f = g + 1 := ⟨f - 1, by omega⟩
    obtain ⟨b0, b1⟩ := byt_k (i := j) hx (by omega)
    obtain ⟨I', e, g5, g1, g2⟩ := ih (j + 1) f (u2 (u2 I1 1221 (t + j) (sb (byt x j))) 1170 37 ((t + (j + 1) : Nat) : Int)) (by omega) (by omega) (by rw [u2_eq])
    refine ⟨I', ?_, g5, fun i i1 i2 => ?_, fun b k q => ?_⟩
    · show (if (24 - 8 * (j : Int)) < 0 then _ else _) = _
      rw [if_neg (by omega)]
      refine bdk z9R29 (bdk z9I ?_)
      rw [h5, b1]
      refine bdk (z9S29 (by unfold sb; omega) (by omega) (by omega)) (bdk z9I ?_)
      rw [toN, u2_ne _ _ (by omega), h5, mw_n (by omega), mw_sh (by omega)]
      exact bdk z9P e
    · by_cases z : i = j
      · subst z
        rw [g2 _ _ (by omega), u2_ne _ _ (by omega), u2_eq]
      · exact g1 i (by omega) i2
    · rw [g2 b k (by omega), u2_ne _ _ (by omega), u2_ne _ _ (by omega)]
theorem q_num {x : Int} {t : Nat} (ht : t + 4 ≤ 500) (h5 : I 32 5 = (t : Int)) : ∃ I', D_X8_feedNumber 32 x (st true n c I W p) = some (st true n c I' W p) ∧ I' 32 5 = ((t + 4 : Nat) : Int) ∧ (∀ i, i < 4 → I' 109 (t + i) = byt x i) ∧ Fr (fun b k => (b = 109 ∧ t ≤ k ∧ k < t + 4) ∨ (b = 32 ∧ k = 5)) I I' := by
  obtain ⟨I', e, g5, g1, g2⟩ := x8_fn3 (n := n) (c := c) (W := W) (p := p) (x := x) ht 4 0 mFU I rfl (by decide) h5
  exact ⟨I', bdk e rfl, g5, fun i hi => g1 i (Nat.zero_le i) hi, g2⟩
theorem r_num {x : Int} {t : Nat} (hx : mIn x) (ht : t + 4 ≤ 500) (h5 : I 1170 37 = (t : Int)) : ∃ I', D_X9_puts 1170 x (st true n c I W p) = some (st true n c I' W p) ∧ I' 1170 37 = ((t + 4 : Nat) : Int) ∧ (∀ i, i < 4 → I' 1221 (t + i) = sb (byt x i)) ∧ Fr (fun b k => (b = 1221 ∧ t ≤ k ∧ k < t + 4) ∨ (b = 1170 ∧ k = 37)) I I' := by
  obtain ⟨I', e, g5, g1, g2⟩ := x9_pu3 (n := n) (c := c) (W := W) (p := p) (x := x) hx ht 4 0 mFU I rfl (by decide) h5
  exact ⟨I', bdk e rfl, g5, fun i hi => g1 i (Nat.zero_le i) hi, g2⟩
/-- the tape behind feeding -/
def fedB (B : Nat → Int) (t : Nat) (a b d e f : Int) (k : Nat) : Int := if t ≤ k ∧ k < t + 20 then byt (if k < t + 4 then a else if k < t + 8 then b else if k < t + 12 then d else if k < t + 16 then e else f) ((k - t) % 4) else B k
def fed (s : Sp) (a b d e f : Int) : Sp := (sT s, sU s, sN s, sL9 s + 20, fedB (sB9 s) (sL9 s) a b d e f, sF s, sX s)
theorem Good_fed {a b d e f : Int} (h : GoodS s) (ht : sL9 s + 20 ≤ 500) (ha : mIn a) (hb : mIn b) (hd : mIn d) (he : mIn e) (hf : mIn f) : GoodS (fed s a b d e f) := by
  obtain ⟨h1, h2, h3, h4, h5⟩ := h
  refine ⟨h1, h2, ht, h4, fun k => ?_⟩
  show 0 ≤ fedB (sB9 s) (sL9 s) a b d e f k ∧ fedB (sB9 s) (sL9 s) a b d e f k < 256
  unfold fedB
  by_cases q : sL9 s ≤ k ∧ k < sL9 s + 20
  · rw [if_pos q]
    refine (byt_k ?_ (by omega)).1
    split
    · exact ha
    split
    · exact hb
    split
    · exact hd
    split
    · exact he
    · exact hf
  · rw [if_neg q]
    exact h5 k
/-- five numbers' bytes, one behind the other -/
theorem fed_at {B : Nat → Int} {t : Nat} {a b d e f : Int} {F : Nat → Int} {g : Int → Int} (h1 : ∀ i, i < 4 → F (t + i) = g (byt a i)) (h2 : ∀ i, i < 4 → F (t + 4 + i) = g (byt b i)) (h3 : ∀ i, i < 4 → F (t + 4 + 4 + i) = g (byt d i)) (h4 : ∀ i, i < 4 → F (t + 4 + 4 + 4 + i) = g (byt e i)) (h5 : ∀ i, i < 4 → F (t + 4 + 4 + 4 + 4 + i) = g (byt f i)) (h0 : ∀ k, k < t → F k = g (B k)) :
    ∀ k, k < t + 20 → F k = g (fedB B t a b d e f k) := by
  intro k hk
  unfold fedB
  by_cases q : t ≤ k ∧ k < t + 20
  · rw [if_pos q]
    by_cases c1 : k < t + 4
    · rw [if_pos c1, show (k - t) % 4 = k - t by omega, ← h1 (k - t) (by omega), show t + (k - t) = k by omega]
    rw [if_neg c1]
    by_cases c2 : k < t + 8
    · rw [if_pos c2, show (k - t) % 4 = k - (t + 4) by omega, ← h2 (k - (t + 4)) (by omega), show t + 4 + (k - (t + 4)) = k by omega]
    rw [if_neg c2]
    by_cases c3 : k < t + 12
    · rw [if_pos c3, show (k - t) % 4 = k - (t + 8) by omega, ← h3 (k - (t + 8)) (by omega), show t + 4 + 4 + (k - (t + 8)) = k by omega]
    rw [if_neg c3]
    by_cases c4 : k < t + 16
    · rw [if_pos c4, show (k - t) % 4 = k - (t + 12) by omega, ← h4 (k - (t + 12)) (by omega), show t + 4 + 4 + 4 + (k - (t + 12)) = k by omega]
    rw [if_neg c4, show (k - t) % 4 = k - (t + 16) by omega, ← h5 (k - (t + 16)) (by omega), show t + 4 + 4 + 4 + 4 + (k - (t + 16)) = k by omega]
  · rw [if_neg q]
    exact h0 k (by omega)
theorem a_feed {a b d e f : Int} (ha : mIn a) (hb : mIn b) (hd : mIn d) (he : mIn e) (hf : mIn f) : Agree n (p8 (D_X8_feed 32 a b d e f)) (D_X9_feed 1170 a b d e f) (fun _ => 0) s := by
  by_cases ht : sL9 s + 20 ≤ 500
  · refine ag_v (x := ((sL9 s + 20 : Nat) : Int)) (s' := fed s a b d e f) (fun c I W p h => ?_) (fun c I W p h => ?_)
    · obtain ⟨I1, e1, t1, b1, f1⟩ := q_num (n := n) (c := c) (I := I) (W := W) (p := p) (x := a) (t := sL9 s) (by omega) h.k.2.1
      obtain ⟨I2, e2, t2, b2, f2⟩ := q_num (n := n) (c := c) (I := I1) (W := W) (p := p) (x := b) (by omega) t1
      obtain ⟨I3, e3, t3, b3, f3⟩ := q_num (n := n) (c := c) (I := I2) (W := W) (p := p) (x := d) (by omega) t2
      obtain ⟨I4, e4, t4, b4, f4⟩ := q_num (n := n) (c := c) (I := I3) (W := W) (p := p) (x := e) (by omega) t3
      obtain ⟨I5, e5, t5, b5, f5⟩ := q_num (n := n) (c := c) (I := I4) (W := W) (p := p) (x := f) (by omega) t4
      have ne : ∀ x k, ¬ (x = 109 ∧ sL9 s ≤ k) → ¬ (x = 32 ∧ k = 5) → I5 x k = I x k := fun x k q1 q2 => by rw [f5 _ _ (by omega), f4 _ _ (by omega), f3 _ _ (by omega), f2 _ _ (by omega), f1 _ _ (by omega)]
      have hg := Good_fed h.1 ht ha hb hd he hf
      have hw := h.w
      have hn := hw.1
      have hn' := hn
      unfold WFn at hn'
      obtain ⟨hg0, ⟨a1, a2, a3⟩, ⟨p1, p2, p3⟩, c1, d1, x1, y1, g1⟩ := h
      have fT : ∀ T b, WFn T → (34 ≤ b ∧ b + 74 ≤ 109 ∨ 110 ≤ b) → ClsT b T I → ClsT b T I5 := fun T b hT hb h => h.fr (P := fun x k => (x = 109 ∧ sL9 s ≤ k) ∨ (x = 32 ∧ k = 5)) hT (fun x k q => ne x k (by omega) (by omega)) (fun a k q => by omega)
      refine ⟨c, I5, W, p, ?_, ⟨hg, ⟨fT _ _ hn (by omega) a1, fun y hy => by rw [ne _ _ (by omega) (by omega)]; exact a2 y hy, ?_⟩, ⟨p1, p2, fun k hk => ?_⟩, ⟨?_, ?_, ?_⟩, ?_, fun k hk => ?_, y1, ?_⟩, ⟨fun x k q => ne x k (by omega) (by omega), fun _ _ => rfl⟩, cn0⟩
      · refine bdk (x := (((sL9 s + 20 : Nat) : Int), st true n c I5 W p)) ?_ rfl
        unfold D_X8_feed
        refine bdk z8I ?_
        rw [c1.2.1, mw_of (by omega) (by omega), if_pos (by omega)]
        refine bdk z8T (bdk e1 (bdk z8T (bdk e2 (bdk z8T (bdk e3 (bdk z8T (bdk e4 (bdk z8T (bdk e5 (bdk z8I ?_))))))))))
        rw [t5]
      · obtain ⟨n1, ⟨m1, ⟨k1, k2, k3, k4, k5, k6⟩, m3⟩, n3⟩ := a3
        refine ⟨n1, ⟨fT _ _ hn (by omega) m1, ⟨k1, fun t ht => ?_, fun r hr => ?_, ?_, ?_, ?_⟩, m3⟩, ?_⟩
        · rw [ne _ _ (by omega) (by omega), ne _ _ (by omega) (by omega), ne _ _ (by omega) (by omega)]; exact k2 t ht
        · rw [ne _ _ (by omega) (by omega)]; exact k3 r hr
        · rw [ne _ _ (by omega) (by omega)]; exact k4
        · rw [ne _ _ (by omega) (by omega)]; exact k5
        · rw [ne _ _ (by omega) (by omega)]; exact k6
        · rw [ne _ _ (by omega) (by omega)]; exact n3
      · have k12 : k < 12 := by have := hg0.2.1; have hk2 : k < sN s := hk; omega
        obtain ⟨j, j1, j2⟩ := p1 k k12
        exact fT _ _ (hg0.2.2.2.1 k hk).1.1 (by omega) (p3 k hk)
      · rw [ne _ _ (by omega) (by omega)]; exact c1.1
      · exact t5
      · rw [ne _ _ (by omega) (by omega)]; exact c1.2.2
      · have key := fed_at (B := sB9 s) (t := sL9 s) (a := a) (b := b) (d := d) (e := e) (f := f) (F := fun k => I5 109 k) (g := fun z => z) ?_ ?_ ?_ ?_ ?_ ?_
        · exact key
        · intro i hi
          show I5 109 _ = _
          rw [f5 _ _ (by omega), f4 _ _ (by omega), f3 _ _ (by omega), f2 _ _ (by omega)]; exact b1 i hi
        · intro i hi
          show I5 109 _ = _
          rw [f5 _ _ (by omega), f4 _ _ (by omega), f3 _ _ (by omega)]; exact b2 i hi
        · intro i hi
          show I5 109 _ = _
          rw [f5 _ _ (by omega), f4 _ _ (by omega)]; exact b3 i hi
        · intro i hi
          show I5 109 _ = _
          rw [f5 _ _ (by omega)]; exact b4 i hi
        · exact b5
        · intro k hk
          show I5 109 _ = _
          rw [ne _ _ (by omega) (by omega)]; exact d1 k hk
      · rw [ne _ _ (by omega) (by omega)]; exact x1 k hk
      · rcases g1 with g1 | ⟨g1, g2, g3, g4⟩
        · exact Or.inl (by rw [ne _ _ (by omega) (by omega)]; exact g1)
        · exact Or.inr ⟨by rw [ne _ _ (by omega) (by omega)]; exact g1, by rw [ne _ _ (by omega) (by omega)]; exact g2, by rw [ne _ _ (by omega) (by omega)]; exact g3, fun q j hj => by rw [ne _ _ (by omega) (by omega)]; exact g4 q j hj⟩
    · have z37 : zJ I 1170 37 = (sL9 s : Int) := by rw [zJ_ne (by omega)]; exact h.k.2.1
      obtain ⟨I1, e1, t1, b1, f1⟩ := r_num (n := n) (c := c) (I := zJ I) (W := W) (p := p) (x := a) (t := sL9 s) ha (by omega) z37
      obtain ⟨I2, e2, t2, b2, f2⟩ := r_num (n := n) (c := c) (I := I1) (W := W) (p := p) (x := b) hb (by omega) t1
      obtain ⟨I3, e3, t3, b3, f3⟩ := r_num (n := n) (c := c) (I := I2) (W := W) (p := p) (x := d) hd (by omega) t2
      obtain ⟨I4, e4, t4, b4, f4⟩ := r_num (n := n) (c := c) (I := I3) (W := W) (p := p) (x := e) he (by omega) t3
      obtain ⟨I5, e5, t5, b5, f5⟩ := r_num (n := n) (c := c) (I := I4) (W := W) (p := p) (x := f) hf (by omega) t4
      have hz := h.z
      have fr : Fr (fun x k => (x = 1221 ∧ sL9 s ≤ k) ∨ (x = 1170 ∧ k = 37)) (zJ I) I5 := fun x k q => by rw [f5 _ _ (by omega), f4 _ _ (by omega), f3 _ _ (by omega), f2 _ _ (by omega), f1 _ _ (by omega)]
      have ne : ∀ x k, ¬ (x = 1221 ∧ sL9 s ≤ k) → ¬ (x = 1170 ∧ k = 37) → I5 x k = zJ I x k := fun x k q1 q2 => fr x k (by omega)
      have hn' := h.w.1
      unfold WFn at hn'
      refine ⟨I5, ?_, ⟨Good_fed h.1 ht ha hb hd he hf, hz.T.fr fr (fun b k q => by omega), hz.F.fr fr (fun b k q => by unfold PL; omega) (by unfold nSa; omega), fun k hk j hj => by rw [ne _ _ (by omega) (by omega)]; exact hz.2.2.2.1 k hk j hj, ⟨?_, t5, ?_, ?_, ?_⟩, ?_, fun k hk => ?_⟩, fun x k q => by rw [ne _ _ (by omega) (by omega), zJ_ne (by omega)], by rw [ne _ _ (by omega) (by omega), zJ0]⟩
      · unfold D_X9_feed
        refine bdk z9Z (bdk z9I ?_)
        rw [z37, mw_of (by omega) (by omega), if_pos (by omega)]
        refine bdk z9T (bdk e1 (bdk z9T (bdk e2 (bdk z9T (bdk e3 (bdk z9T (bdk e4 (bdk z9T (bdk e5 (bdk z9I ?_))))))))))
        rw [t5]
      · rw [ne _ _ (by omega) (by omega)]; exact hz.k.1
      · rw [ne _ _ (by omega) (by omega)]; exact hz.k.2.2.1
      · rw [ne _ _ (by omega) (by omega)]; exact hz.k.2.2.2.1
      · rw [ne _ _ (by omega) (by omega)]; exact hz.k.2.2.2.2
      · have key := fed_at (B := sB9 s) (t := sL9 s) (a := a) (b := b) (d := d) (e := e) (f := f) (F := fun k => I5 1221 k) (g := sb) ?_ ?_ ?_ ?_ ?_ ?_
        · exact key
        · intro i hi
          show I5 1221 _ = _
          rw [f5 _ _ (by omega), f4 _ _ (by omega), f3 _ _ (by omega), f2 _ _ (by omega)]; exact b1 i hi
        · intro i hi
          show I5 1221 _ = _
          rw [f5 _ _ (by omega), f4 _ _ (by omega), f3 _ _ (by omega)]; exact b2 i hi
        · intro i hi
          show I5 1221 _ = _
          rw [f5 _ _ (by omega), f4 _ _ (by omega)]; exact b3 i hi
        · intro i hi
          show I5 1221 _ = _
          rw [f5 _ _ (by omega)]; exact b4 i hi
        · exact b5
        · intro k hk
          show I5 1221 _ = _
          rw [ne _ _ (by omega) (by omega)]; exact hz.2.2.2.2.2.1 k hk
      · rw [ne _ _ (by omega) (by omega)]; exact hz.2.2.2.2.2.2 k hk
  · refine ag_v (x := -1) (s' := s) (fun c I W p h => ⟨c, I, W, p, ?_, h, HI.r, cn0⟩) (q9v fun c I W p h => ⟨zJ I, ?_, AskX_zJ h, zJ0⟩)
    · refine bdk (x := ((-1 : Int), st true n c I W p)) ?_ rfl
      unfold D_X8_feed
      refine bdk z8I ?_
      have h5 : sL9 s ≤ 500 := h.1.2.2.1
      rw [h.k.2.1, mw_of (by omega) (by omega), if_neg (by omega)]
    · unfold D_X9_feed
      refine bdk z9Z (bdk z9I ?_)
      have h5 : sL9 s ≤ 500 := h.1.2.2.1
      rw [zJ_ne (by omega), h.k.2.1, mw_of (by omega) (by omega), if_neg (by omega)]
end FD
