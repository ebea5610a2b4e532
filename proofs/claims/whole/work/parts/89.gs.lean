/-! THE PURE PART: the constructors, place by place -/
theorem mS_ext {σ τ : mS} (h0 : σ.1 = τ.1) (h1 : ∀ b, mH σ b = mH τ b) (h2 : ∀ b k, mI σ b k = mI τ b k) (h3 : ∀ b k, mL σ b k = mL τ b k) (h4 : ∀ b k, mR σ b k = mR τ b k) : σ = τ := by
  obtain ⟨a, b, c, d, e⟩ := σ
  obtain ⟨a', b', c', d', e'⟩ := τ
  have e0 : a = a' := h0
  have e1 : b = b' := funext h1
  have e2 : c = c' := funext fun i => funext (h2 i)
  have e3 : d = d' := funext fun i => funext (h3 i)
  have e4 : e = e' := funext fun i => funext (h4 i)
  rw [e0, e1, e2, e3, e4]
theorem u1_def {α : Type} (f : Nat → Nat → α) (a : Nat) (x : α) (b j : Nat) : u1 f a x b j = if b = a then x else f b j := rfl
/-- a store while it is laid: m places from 32 on, shaped as the tables say, all words nothing -/
def gs (L m z : Nat) (R : Nat → Nat → Nat) (I : Nat → Nat → Int) (W : Nat → Nat → BitVec 64) : mS :=
  ((m, z, m, 0), (fun b => if b = 1 then (51, L) else if 32 ≤ b ∧ b < 32 + m then HC true b else (0, 0)), I, W, fun b k => if 32 ≤ b ∧ b < 32 + m then R b k else 0)
def rM (R : Nat → Nat → Nat) (v n : Nat) : Nat → Nat → Nat := fun b j => if b = v then (if j < n then v + 1 + j else 0) else if v < b then 0 else R b j
def iM (I : Nat → Nat → Int) (v n : Nat) : Nat → Nat → Int := fun b j => if v ≤ b ∧ b ≤ v + n then 0 else I b j
/-- a window of places, told by another table -/
def wn (a0 : Nat) (T R : Nat → Nat → Nat) : Nat → Nat → Nat := fun b k => if a0 ≤ b then T b k else R b k
theorem wn_u1 {a0 v : Nat} {T R : Nat → Nat → Nat} (h : a0 ≤ v) : u1 (wn a0 T R) v 0 = wn a0 (u1 T v 0) R := by
  funext b k
  show (if b = v then 0 else if a0 ≤ b then T b k else R b k) = if a0 ≤ b then (if b = v then 0 else T b k) else R b k
  by_cases q : b = v
  · rw [if_pos q, if_pos (by omega), if_pos q]
  · rw [if_neg q, if_neg q]
theorem wn_u2 {a0 v j x : Nat} {T R : Nat → Nat → Nat} (h : a0 ≤ v) : u2 (wn a0 T R) v j x = wn a0 (u2 T v j x) R := by
  funext b k
  show (if b = v ∧ k = j then x else if a0 ≤ b then T b k else R b k) = if a0 ≤ b then (if b = v ∧ k = j then x else T b k) else R b k
  by_cases q : b = v ∧ k = j
  · rw [if_pos q, if_pos (by omega), if_pos q]
  · rw [if_neg q, if_neg q]
theorem wn_rM {a0 v n : Nat} {T R : Nat → Nat → Nat} (h : a0 ≤ v) : rM (wn a0 T R) v n = wn a0 (rM T v n) R := by
  funext b k
  show (if b = v then (if k < n then v + 1 + k else 0) else if v < b then 0 else if a0 ≤ b then T b k else R b k) = if a0 ≤ b then (if b = v then (if k < n then v + 1 + k else 0) else if v < b then 0 else T b k) else R b k
  by_cases q : b = v
  · exact (if_pos q).trans ((if_pos (by omega)).trans (if_pos q)).symm
  · rw [if_neg q, if_neg q]
    by_cases q2 : v < b
    · rw [if_pos q2, if_pos (by omega), if_pos q2]
    · rw [if_neg q2, if_neg q2]
theorem wn_wn {a0 a1 : Nat} {X T R : Nat → Nat → Nat} (h : a0 ≤ a1) : wn a1 X (wn a0 T R) = wn a0 (wn a1 X T) R := by
  funext b k
  show (if a1 ≤ b then X b k else if a0 ≤ b then T b k else R b k) = if a0 ≤ b then (if a1 ≤ b then X b k else T b k) else R b k
  by_cases q : a1 ≤ b
  · rw [if_pos q, if_pos (by omega), if_pos q]
  · rw [if_neg q, if_neg q]
/-- nothing far out in a row -/
def Z64 (T : Nat → Nat → Nat) : Prop := ∀ b k, 64 ≤ k → T b k = 0
theorem Z64_z : Z64 (fun _ _ => 0) := fun _ _ _ => rfl
theorem Z64_u1 {T : Nat → Nat → Nat} {v : Nat} (h : Z64 T) : Z64 (u1 T v 0) := by
  intro b k hk
  rw [u1_def]
  split
  · rfl
  · exact h b k hk
theorem Z64_u2 {T : Nat → Nat → Nat} {v j x : Nat} (h : Z64 T) (hj : j < 64) : Z64 (u2 T v j x) := by
  intro b k hk
  rw [u2_def, if_neg (by omega)]
  exact h b k hk
theorem Z64_rM {T : Nat → Nat → Nat} {v n : Nat} (h : Z64 T) (hn : n ≤ 64) : Z64 (rM T v n) := by
  intro b k hk
  show (if b = v then (if k < n then v + 1 + k else 0) else if v < b then 0 else T b k) = 0
  rw [if_neg (by omega : ¬ k < n)]
  split
  · rfl
  · split
    · rfl
    · exact h b k hk
theorem Z64_wn {a : Nat} {X T : Nat → Nat → Nat} (hX : Z64 X) (h : Z64 T) : Z64 (wn a X T) := by
  intro b k hk
  show (if a ≤ b then X b k else T b k) = 0
  split
  · exact hX b k hk
  · exact h b k hk
theorem Z64_told {a o k : Nat} (hk : 64 ≤ k) : toldR a o k = 0 := by
  unfold toldR
  rw [if_neg (by omega : ¬ (6 ≤ k ∧ k ≤ 10)), if_neg (by omega : ¬ k < 12), if_neg (by omega : ¬ k < 4), if_neg (by omega : ¬ k < 24), if_neg (by omega : ¬ k = 3), if_neg (by omega : ¬ k = 4), if_neg (by omega : ¬ k = 1)]
  simp only [ite_self]
theorem Z64_nar {a o k : Nat} (hk : 64 ≤ k) : narR a o k = 0 := by
  unfold narR
  rw [if_neg (by omega : ¬ k = 0), if_neg (by omega : ¬ k = 1), if_neg (by omega : ¬ k = 2), if_neg (by omega : ¬ k = 3), if_neg (by omega : ¬ k = 4), if_neg (by omega : ¬ k = 5), if_neg (by omega : ¬ k = 6), if_neg (by omega : ¬ k = 7), if_neg (by omega : ¬ k = 11), if_neg (by omega : ¬ k = 12), if_neg (by omega : ¬ k < 12)]
  simp only [ite_self]
theorem Z64_tri {a o k : Nat} (hk : 64 ≤ k) : triR a o k = 0 := by
  unfold triR
  rw [if_neg (by omega : ¬ k = 0), if_neg (by omega : ¬ k = 4), if_neg (by omega : ¬ k = 5), if_neg (by omega : ¬ k = 6), if_neg (by omega : ¬ k = 7), if_neg (by omega : ¬ k < 12)]
  simp only [ite_self]
theorem Z64_ref {a o k : Nat} (hk : 64 ≤ k) : refR a o k = 0 := by
  unfold refR
  rw [if_neg (by omega : ¬ k < 9), if_neg (by omega : ¬ k < 13), if_neg (by omega : ¬ k = 13), if_neg (by omega : ¬ k = 14), if_neg (by omega : ¬ k = 15), if_neg (by omega : ¬ k = 25), if_neg (by omega : ¬ k = 26), if_neg (by omega : ¬ k = 27), if_neg (by omega : ¬ k = 29), if_neg (by omega : ¬ k = 30), if_neg (by omega : ¬ k = 31), if_neg (by omega : ¬ (32 ≤ k ∧ k ≤ 36)), if_neg (by omega : ¬ k = 50), if_neg (by omega : ¬ k = 51), if_neg (by omega : ¬ k < 12)]
  simp only [ite_self]
theorem Z64_RR {g : Bool} : Z64 (RR g) := by
  intro b k hk
  unfold RR
  rw [Z64_told hk, Z64_told hk, Z64_told hk, Z64_nar hk, Z64_nar hk, Z64_tri hk, Z64_ref hk, if_neg (by omega : ¬ k = 0), if_neg (by omega : ¬ k = 1), if_neg (by omega : ¬ k = 2), if_neg (by omega : ¬ k = 4), if_neg (by omega : ¬ k = 7), if_neg (by omega : ¬ k = 8), if_neg (by omega : ¬ k = 9), if_neg (by omega : ¬ k = 10), if_neg (by omega : ¬ k = 11), if_neg (by omega : ¬ k = 0), if_neg (by omega : ¬ k = 3), if_neg (by omega : ¬ k = 10), if_neg (by omega : ¬ k = 11)]
  simp only [ite_self]
theorem tab_eq {T T' : Nat → Nat → Nat} {lo hi : Nat} (hT : Z64 T) (hT' : Z64 T') (h : ∀ o, o < hi - lo → ∀ k, k < 64 → T (lo + o) k = T' (lo + o) k) : ∀ b, lo ≤ b → b < hi → ∀ k, T b k = T' b k := by
  intro b h1 h2 k
  by_cases q : k < 64
  · have := h (b - lo) (by omega) k q
    rw [show lo + (b - lo) = b by omega] at this
    exact this
  · rw [hT b k (by omega), hT' b k (by omega)]
/-- nothing below a place is touched -/
def FB (a : Nat) (I J : Nat → Nat → Int) : Prop := ∀ b k, b < a → J b k = I b k
theorem FB_r {a : Nat} {I : Nat → Nat → Int} : FB a I I := fun _ _ _ => rfl
theorem FB_u1 {a v : Nat} {x : Int} {I J : Nat → Nat → Int} (hv : a ≤ v) (h : FB a I J) : FB a I (u1 J v x) := fun b k hb => by rw [u1_def, if_neg (by omega)]; exact h b k hb
theorem FB_u2 {a v j : Nat} {x : Int} {I J : Nat → Nat → Int} (hv : a ≤ v) (h : FB a I J) : FB a I (u2 J v j x) := fun b k hb => by rw [u2_def, if_neg (by omega)]; exact h b k hb
theorem FB_iM {a v n : Nat} {I J : Nat → Nat → Int} (hv : a ≤ v) (h : FB a I J) : FB a I (iM J v n) := fun b k hb => by
  show (if v ≤ b ∧ b ≤ v + n then 0 else J b k) = _
  rw [if_neg (by omega)]
  exact h b k hb
theorem FB_t {a a' : Nat} {I J K : Nat → Nat → Int} (ha : a ≤ a') (h : FB a I J) (h2 : FB a' J K) : FB a I K := fun b k hb => (h2 b k (by omega)).trans (h b k hb)
section GS
variable {L m z w : Nat} {R R' : Nat → Nat → Nat} {I : Nat → Nat → Int} {W : Nat → Nat → BitVec 64}
theorem gs_cong (h : ∀ b, 32 ≤ b → b < 32 + m → ∀ k, R b k = R' b k) : gs L m z R I W = gs L m z R' I W := by
  refine mS_ext rfl (fun _ => rfl) (fun _ _ => rfl) (fun _ _ => rfl) (fun b k => ?_)
  show (if 32 ≤ b ∧ b < 32 + m then R b k else 0) = if 32 ≤ b ∧ b < 32 + m then R' b k else 0
  by_cases q : 32 ≤ b ∧ b < 32 + m
  · rw [if_pos q, if_pos q]; exact h b q.1 q.2 k
  · rw [if_neg q, if_neg q]
theorem gs_new {t n v : Nat} (hW : ∀ b k, w ≤ b → W b k = 0) (hw : w ≤ v) (hv : 32 + m = v) (hH : HC true v = (t, n)) : mNew (gs L m z R I W) t n = gs L (m + 1) (z + n) (u1 R v 0) (u1 I v 0) W := by
  subst hv
  refine mS_ext rfl (fun b => ?_) (fun _ _ => rfl) (fun b k => ?_) (fun b k => ?_)
  · show (if b = 32 + m then (t, n) else if b = 1 then (51, L) else if 32 ≤ b ∧ b < 32 + m then HC true b else (0, 0)) = if b = 1 then (51, L) else if 32 ≤ b ∧ b < 32 + (m + 1) then HC true b else (0, 0)
    by_cases q : b = 32 + m
    · subst q
      rw [if_pos rfl, if_neg (by omega), if_pos (by omega), hH]
    · rw [if_neg q]
      by_cases q1 : b = 1
      · rw [if_pos q1, if_pos q1]
      · rw [if_neg q1, if_neg q1]
        by_cases q2 : 32 ≤ b ∧ b < 32 + m
        · rw [if_pos q2, if_pos (by omega)]
        · rw [if_neg q2, if_neg (by omega)]
  · show (if b = 32 + m then (0 : BitVec 64) else W b k) = W b k
    by_cases q : b = 32 + m
    · rw [if_pos q, hW b k (by omega)]
    · rw [if_neg q]
  · show (if b = 32 + m then 0 else if 32 ≤ b ∧ b < 32 + m then R b k else 0) = if 32 ≤ b ∧ b < 32 + (m + 1) then (if b = 32 + m then 0 else R b k) else 0
    by_cases q : b = 32 + m
    · rw [if_pos q, if_pos (by omega), if_pos q]
    · rw [if_neg q]
      by_cases q2 : 32 ≤ b ∧ b < 32 + m
      · rw [if_pos q2, if_pos (by omega), if_neg q]
      · rw [if_neg q2, if_neg (by omega)]
theorem gs_mul {t u n k v : Nat} (hW : ∀ b k, w ≤ b → W b k = 0) (hw : w ≤ v) (hv : 32 + m = v) (hH : HC true v = (t, n)) (hU : ∀ i, i < n → HC true (v + 1 + i) = (u, k)) : mMul (gs L m z R I W) t u n k = gs L (m + 1 + n) (z + n + n * k) (rM R v n) (iM I v n) W := by
  subst hv
  refine mS_ext rfl (fun b => ?_) (fun _ _ => rfl) (fun b k => ?_) (fun b j => ?_)
  · show (if b = 32 + m then (t, n) else if 32 + m < b ∧ b ≤ 32 + m + n then (u, k) else if b = 1 then (51, L) else if 32 ≤ b ∧ b < 32 + m then HC true b else (0, 0)) = if b = 1 then (51, L) else if 32 ≤ b ∧ b < 32 + (m + 1 + n) then HC true b else (0, 0)
    by_cases q : b = 32 + m
    · subst q
      rw [if_pos rfl, if_neg (by omega), if_pos (by omega), hH]
    · rw [if_neg q]
      by_cases q0 : 32 + m < b ∧ b ≤ 32 + m + n
      · rw [if_pos q0, if_neg (by omega), if_pos (by omega), ← hU (b - (32 + m + 1)) (by omega), show 32 + m + 1 + (b - (32 + m + 1)) = b by omega]
      · rw [if_neg q0]
        by_cases q1 : b = 1
        · rw [if_pos q1, if_pos q1]
        · rw [if_neg q1, if_neg q1]
          by_cases q2 : 32 ≤ b ∧ b < 32 + m
          · rw [if_pos q2, if_pos (by omega)]
          · rw [if_neg q2, if_neg (by omega)]
  · show (if 32 + m ≤ b ∧ b ≤ 32 + m + n then (0 : BitVec 64) else W b k) = W b k
    by_cases q : 32 + m ≤ b ∧ b ≤ 32 + m + n
    · rw [if_pos q, hW b k (by omega)]
    · rw [if_neg q]
  · show (if b = 32 + m then (if j < n then 32 + m + 1 + j else 0) else if 32 + m < b ∧ b ≤ 32 + m + n then 0 else if 32 ≤ b ∧ b < 32 + m then R b j else 0) = if 32 ≤ b ∧ b < 32 + (m + 1 + n) then (if b = 32 + m then (if j < n then 32 + m + 1 + j else 0) else if 32 + m < b then 0 else R b j) else 0
    by_cases q : b = 32 + m
    · exact (if_pos q).trans ((if_pos (by omega)).trans (if_pos q)).symm
    · rw [if_neg q]
      by_cases q0 : 32 + m < b ∧ b ≤ 32 + m + n
      · rw [if_pos q0, if_pos (by omega), if_neg q, if_pos q0.1]
      · rw [if_neg q0]
        by_cases q2 : 32 ≤ b ∧ b < 32 + m
        · rw [if_pos q2, if_pos (by omega), if_neg q, if_neg (by omega)]
        · rw [if_neg q2, if_neg (by omega)]
theorem gs_open {v : Nat} (hv : 32 + m = v + 1) : gs L m z (u1 R v 0) I W = gs L m z (wn v (fun _ _ => 0) R) I W := by
  refine gs_cong fun b _ hb k => ?_
  show (if b = v then 0 else R b k) = if v ≤ b then 0 else R b k
  by_cases q : b = v
  · rw [if_pos q, if_pos (by omega)]
  · rw [if_neg q, if_neg (by omega)]
theorem gs_win {a : Nat} {T T' : Nat → Nat → Nat} (h : ∀ b, a ≤ b → b < 32 + m → ∀ k, T b k = T' b k) : gs L m z (wn a T R) I W = gs L m z (wn a T' R) I W := by
  refine gs_cong fun b _ hb k => ?_
  show (if a ≤ b then T b k else R b k) = if a ≤ b then T' b k else R b k
  by_cases q : a ≤ b
  · rw [if_pos q, if_pos q]; exact h b q hb k
  · rw [if_neg q, if_neg q]
theorem gH {a t n : Nat} (h : HC true a = (t, n)) (h0 : 32 ≤ a) (h1 : a < 32 + m) : mH (gs L m z R I W) a = (t, n) := by
  show (if a = 1 then (51, L) else if 32 ≤ a ∧ a < 32 + m then HC true a else (0, 0)) = _
  rw [if_neg (by omega), if_pos ⟨h0, h1⟩, h]
theorem g_pI {a t n k : Nat} {x : Int} (h : HC true a = (t + 1, n)) (h0 : 32 ≤ a) (h1 : a < 32 + m) : pI (gs L m z R I W) a t k x = some (gs L m z R (u2 I a k x) W) := pI_k (gH h h0 h1)
theorem g_pB {a t n k : Nat} {x : Int} (h : HC true a = (t + 1, n)) (h0 : 32 ≤ a) (h1 : a < 32 + m) (hx : x = 0 ∨ x = 1) : pB (gs L m z R I W) a t k x = some (gs L m z R (u2 I a k x) W) := pB_k (gH h h0 h1) hx
theorem gs_mR {a k x : Nat} (h0 : 32 ≤ a) (h1 : a < 32 + m) : mwR (gs L m z R I W) a k x = gs L m z (u2 R a k x) I W := by
  refine mS_ext rfl (fun _ => rfl) (fun _ _ => rfl) (fun _ _ => rfl) (fun b j => ?_)
  show (if b = a ∧ j = k then x else if 32 ≤ b ∧ b < 32 + m then R b j else 0) = if 32 ≤ b ∧ b < 32 + m then (if b = a ∧ j = k then x else R b j) else 0
  by_cases q : b = a ∧ j = k
  · rw [if_pos q, if_pos (by omega), if_pos q]
  · rw [if_neg q, if_neg q]
theorem g_pR {a t n k x : Nat} (h : HC true a = (t + 1, n)) (h0 : 32 ≤ a) (h1 : a < 32 + m) : pR (gs L m z R I W) a t k x = some (gs L m z (u2 R a k x) I W) := (pR_k (gH h h0 h1)).trans (congrArg some (gs_mR h0 h1))
theorem g_gR {a t n k : Nat} (h : HC true a = (t + 1, n)) (h0 : 32 ≤ a) (h1 : a < 32 + m) : gR (gs L m z R I W) a t k = some (R a k) := (gR_k (gH h h0 h1)).trans (congrArg some (if_pos ⟨h0, h1⟩))
theorem g_sR {a t n x : Nat} {i : Int} (h : HC true a = (t, n)) (ht : 55 ≤ t ∧ t ≤ 58) (h0 : 32 ≤ a) (h1 : a < 32 + m) (hx : (HC true x).1 = mCT t) (h2 : 32 ≤ x) (h3 : x < 32 + m) (i0 : 0 ≤ i) (i1 : i < (n : Nat)) : sR (gs L m z R I W) a i x = some (gs L m z (u2 R a i.toNat x) I W) := by
  have e : mH (gs L m z R I W) a = (t, n) := gH h h0 h1
  have e2 : mH (gs L m z R I W) x = HC true x := gH (t := (HC true x).1) (n := (HC true x).2) rfl h2 h3
  unfold sR
  rw [e, e2]
  exact (if_pos ⟨ht, hx, i0, i1⟩).trans (congrArg some (gs_mR h0 h1))
theorem g_O {u n v m' z' : Nat} (hW : ∀ b k, w ≤ b → W b k = 0) (hw : w ≤ v) (hv : 32 + m = v) (hH : HC true v = (u + 1, n)) (hm : m + 1 = m') (hz : z + n = z') : nwO (gs L m z R I W) u n = some (gs L m' z' (u1 R v 0) (u1 I v 0) W) := by
  subst hm hz
  exact (nwO_k (σ := gs L m z R I W) rfl).trans (congrArg some (gs_new hW hw hv hH))
theorem g_A {u x v m' z' : Nat} {y : Int} (hW : ∀ b k, w ≤ b → W b k = 0) (hw : w ≤ v) (hv : 32 + m = v) (h0 : 0 ≤ y) (h1 : y ≤ 100000) (hx : y.toNat = x) (hH : HC true v = (51 + u, x)) (hm : m + 1 = m') (hz : z + x = z') : nwA (gs L m z R I W) u y = some (gs L m' z' (u1 R v 0) (u1 I v 0) W) := by
  subst hm hz hx
  exact (nwA_k (σ := gs L m z R I W) rfl h0 h1).trans (congrArg some (gs_new hW hw hv hH))
theorem g_M {t u n k v m' z' : Nat} {y w2 : Int} (hW : ∀ b k, w ≤ b → W b k = 0) (hw : w ≤ v) (hv : 32 + m = v) (h0 : 0 ≤ y) (h1 : 0 ≤ w2) (h2 : y ≤ 10000) (h3 : w2 ≤ 10000) (hy : y.toNat = n) (hw2 : w2.toNat = k) (hH : HC true v = (51 + t, n)) (hU : ∀ i, i < n → HC true (v + 1 + i) = (51 + u, k)) (hm : m + 1 + n = m') (hz : z + n + n * k = z') :
    nwM (gs L m z R I W) t u y w2 = some (gs L m' z' (rM R v n) (iM I v n) W) := by
  subst hm hz hy hw2
  exact (if_pos ⟨rfl, h0, h1, h2, h3⟩ : nwM (gs L m z R I W) t u y w2 = some (mMul (gs L m z R I W) (51 + t) (51 + u) y.toNat w2.toNat)).trans (congrArg some (gs_mul hW hw hv hH hU))
/-- an array made and kept in a place -/
theorem gAx {u x v m' z' a t n k : Nat} {y : Int} {f : mS → Option mS} {r : Option mS} (hW : ∀ b k, w ≤ b → W b k = 0) (hw : w ≤ v) (hv : 32 + m = v) (h0 : 0 ≤ y) (h1 : y ≤ 100000) (hx : y.toNat = x) (hH : HC true v = (51 + u, x)) (hm : m + 1 = m') (hz : z + x = z') (ha : HC true a = (t + 1, n)) (a0 : 32 ≤ a) (a1 : a < v)
    (e : f (gs L m' z' (u2 (u1 R v 0) a k v) (u1 I v 0) W) = r) : ((nwA (gs L m z R I W) u y).bind fun s => (pR s a t k (32 + mN (gs L m z R I W))).bind f) = r := by
  refine bdk (g_A hW hw hv h0 h1 hx hH hm hz) ?_
  show (pR (gs L m' z' (u1 R v 0) (u1 I v 0) W) a t k (32 + m)).bind f = r
  rw [hv]
  exact bdk (g_pR ha a0 (by omega)) e
theorem gMx {t u nn kk v m' z' a ta na k : Nat} {y w2 : Int} {f : mS → Option mS} {r : Option mS} (hW : ∀ b k, w ≤ b → W b k = 0) (hw : w ≤ v) (hv : 32 + m = v) (h0 : 0 ≤ y) (h1 : 0 ≤ w2) (h2 : y ≤ 10000) (h3 : w2 ≤ 10000) (hy : y.toNat = nn) (hw2 : w2.toNat = kk) (hH : HC true v = (51 + t, nn)) (hU : ∀ i, i < nn → HC true (v + 1 + i) = (51 + u, kk)) (hm : m + 1 + nn = m') (hz : z + nn + nn * kk = z')
    (ha : HC true a = (ta + 1, na)) (a0 : 32 ≤ a) (a1 : a < v) (e : f (gs L m' z' (u2 (rM R v nn) a k v) (iM I v nn) W) = r) : ((nwM (gs L m z R I W) t u y w2).bind fun s => (pR s a ta k (32 + mN (gs L m z R I W))).bind f) = r := by
  refine bdk (g_M hW hw hv h0 h1 h2 h3 hy hw2 hH hU hm hz) ?_
  show (pR (gs L m' z' (rM R v nn) (iM I v nn) W) a ta k (32 + m)).bind f = r
  rw [hv]
  exact bdk (g_pR ha a0 (by omega)) e
theorem gIx {a t n k : Nat} {x : Int} {f : mS → Option mS} {r : Option mS} (h : HC true a = (t + 1, n)) (h0 : 32 ≤ a) (h1 : a < 32 + m) (e : f (gs L m z R (u2 I a k x) W) = r) : (pI (gs L m z R I W) a t k x).bind f = r := bdk (g_pI h h0 h1) e
theorem gBx {a t n k : Nat} {x : Int} {f : mS → Option mS} {r : Option mS} (h : HC true a = (t + 1, n)) (h0 : 32 ≤ a) (h1 : a < 32 + m) (hx : x = 0 ∨ x = 1) (e : f (gs L m z R (u2 I a k x) W) = r) : (pB (gs L m z R I W) a t k x).bind f = r := bdk (g_pB h h0 h1 hx) e
theorem gRx {a t n k x : Nat} {f : mS → Option mS} {r : Option mS} (h : HC true a = (t + 1, n)) (h0 : 32 ≤ a) (h1 : a < 32 + m) (e : f (gs L m z (u2 R a k x) I W) = r) : (pR (gs L m z R I W) a t k x).bind f = r := bdk (g_pR h h0 h1) e
end GS
def Zw : Nat → Nat → BitVec 64 := fun _ _ => 0
theorem hZw : ∀ b k, 0 ≤ b → Zw b k = 0 := fun _ _ _ => rfl
