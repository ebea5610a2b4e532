/-! THE PURE PART: what is told changes: both sides -/
section CO
variable {T T' : Td}
theorem segA_c (h : ∀ j, 303 ≤ j → T' j = T j) (k : Nat) (y : Int) : segA T' k y = segA T k y := by
  unfold segA
  rw [h (330 + k) (by omega), h (330 + k + 1) (by omega), h (310 + k) (by omega), h (310 + k + 1) (by omega)]
theorem ageK_c (h : ∀ j, 303 ≤ j → T' j = T j) (y : Int) : ∀ k, ageK T' y k = ageK T y k := by
  intro k
  induction k with
  | zero => rfl
  | succ k ih =>
    show (if T' (310 + k) ≤ y ∧ y ≤ T' (310 + k + 1) then segA T' k y else ageK T' y k) = (if T (310 + k) ≤ y ∧ y ≤ T (310 + k + 1) then segA T k y else ageK T y k)
    rw [h (310 + k) (by omega), h (310 + k + 1) (by omega), segA_c h, ih]
theorem ageS_c (h : ∀ j, 303 ≤ j → T' j = T j) (y : Int) : ageS T' y = ageS T y := by
  unfold ageS nKn
  rw [ageK_c h, h 303 (by omega)]
theorem tSa_c (h : ∀ j, 123 ≤ j → T' j = T j) (s w : Nat) : tSa T' s w = tSa T s w := h _ (by omega)
theorem misR_c (h : ∀ j, 123 ≤ j → T' j = T j) {rv : Int} {s : Nat} {y : Int} : ∀ (d k : Nat) (acc : Int), misR T' rv s y d k acc = misR T rv s y d k acc := by
  intro d
  induction d with
  | zero => intro k acc; rfl
  | succ d ih =>
    intro k acc
    rw [misR_s, misR_s, tSa_c h, tSa_c h, ageS_c (fun j hj => h j (by omega)), ih]
theorem misS_c (h : ∀ j, 123 ≤ j → T' j = T j) {rv : Int} {s : Nat} {y : Int} : misS T' rv s y = misS T rv s y := by
  unfold misS
  simp only [tSa_c h, ageS_c (fun j hj => h j (by omega)), misR_c h]
theorem lmS_c (h : ∀ j, 123 ≤ j → T' j = T j) {rv : Int} {s : Nat} : ∀ (d y : Nat) (b : Int), lmS T' rv s d y b = lmS T rv s d y b := by
  intro d
  induction d with
  | zero => intro y b; rfl
  | succ d ih =>
    intro y b
    show lmS T' rv s d (y + 1) (if misS T' rv s y = -1 then b else if b = -1 then misS T' rv s y else if b ≤ misS T' rv s y then b else misS T' rv s y) = lmS T rv s d (y + 1) (if misS T rv s y = -1 then b else if b = -1 then misS T rv s y else if b ≤ misS T rv s y then b else misS T rv s y)
    rw [misS_c h, ih]
theorem FS_c (h0 : T' 0 = T 0) (h1 : T' 1 = T 1) (h : ∀ j, 123 ≤ j → T' j = T j) (s y : Nat) : FS T' s y = FS T s y := by
  unfold FS firstS leastS
  simp only [misS_c h, tSa_c h, lmS_c h, h0, h1]
/-- WF of all but the rules and one sample -/
theorem WF_c (hw : WF T) (hn : WFn T') (h : ∀ j, 303 ≤ j → T' j = T j) (hs : ∀ s : Nat, (s : Int) < T 304 → WFs T' s) (hr : ∀ r : Nat, (r : Int) < T' 2 → WFr T' r) : WF T' := by
  obtain ⟨h1, h2, h3, h4, h5⟩ := hw
  refine ⟨hn, ?_, fun s q => hs s (by rw [← h 304 (by omega)]; exact q), fun q hq => ?_, hr⟩
  · unfold WFk at h2 ⊢
    rw [h 303 (by omega)]
    refine ⟨fun k hk => ?_, fun k hk => ?_⟩
    · rw [h (310 + k) (by omega), h (330 + k) (by omega)]; exact h2.1 k hk
    · rw [h (310 + k) (by omega), h (310 + k + 1) (by omega)]; exact h2.2 k hk
  · rw [h 305 (by omega)] at hq
    have := h4 q hq
    unfold WFp at this ⊢
    rw [h (350 + q) (by omega), h 304 (by omega)]
    refine ⟨this.1, fun k hk => ?_, fun k j a b => ?_⟩
    · rw [h (360 + 6 * q + k) (by omega)]; exact this.2.1 k hk
    · rw [h (360 + 6 * q + k) (by omega), h (360 + 6 * q + j) (by omega)]; exact this.2.2 k j a b
theorem WFs_c {s : Nat} (h : ∀ w, w < 15 → tSa T' s w = tSa T s w) (hw : WFs T s) : WFs T' s := by
  unfold WFs at hw ⊢
  rw [h 0 (by decide), h 1 (by decide), h 2 (by decide)]
  rcases hw with hw | ⟨a1, a2, a3, a4⟩
  · exact Or.inl hw
  · refine Or.inr ⟨a1, a2, a3, fun k hk => ?_⟩
    rw [h (3 + k) (by omega), h (9 + k) (by omega)]
    exact a4 k hk
theorem WFr_c {r q : Nat} (h : ∀ w, w < 5 → tRu T' r w = tRu T q w) (h4 : T' 304 = T 304) (h5 : T' 305 = T 305) (hw : WFr T q) : WFr T' r := by
  unfold WFr at hw ⊢
  rw [h 0 (by decide), h 1 (by decide), h 2 (by decide), h 3 (by decide), h 4 (by decide), h4, h5]
  exact hw
theorem ClsT_put {I : Nat → Nat → Int} {b i : Nat} {v : Int} (hw : WFn T) (hi : i < 2) (h : ClsT b T I) : ClsT b (putT T i v) (u2 I b i v) := by
  unfold WFn at hw
  obtain ⟨⟨a1, a2, a3, a4, a5, a6⟩, c1, c2, c3, c4⟩ := h
  have s12 : nSa T ≤ 12 := by unfold nSa; omega
  have hp : nPh T ≤ 4 := by unfold nPh; omega
  refine ⟨⟨?_, ?_, ?_, ?_, ?_, ?_⟩, fun k hk => ?_, fun s hs => ?_, fun q hq => ?_, fun r hr w hw => ?_⟩
  · by_cases q : i = 0
    · subst q; rw [u2_eq, putT_at]
    · rw [u2_ne _ _ (by omega), putT_ne (fun z => q z.symm)]; exact a1
  · by_cases q : i = 1
    · subst q; rw [u2_eq, putT_at]
    · rw [u2_ne _ _ (by omega), putT_ne (fun z => q z.symm)]; exact a2
  · rw [u2_ne _ _ (by omega), p303 hi]; exact a3
  · rw [u2_ne _ _ (by omega), p304 hi]; exact a4
  · rw [u2_ne _ _ (by omega), p305 hi]; exact a5
  · rw [u2_ne _ _ (by omega), p2 hi]; exact a6
  · rw [nKn_put hi] at hk
    rw [u2_ne _ _ (by omega), u2_ne _ _ (by omega), p310 hi, p330 hi]
    exact c1 k hk
  · rw [nSa_put hi] at hs
    simp only [tSa_put hi]
    rw [u2_ne _ _ (by omega), u2_ne _ _ (by omega), u2_ne _ _ (by omega)]
    refine ⟨(c2 s hs).1, fun e k hk => ?_⟩
    rw [u2_ne _ _ (by omega), u2_ne _ _ (by omega)]
    exact (c2 s hs).2 e k hk
  · rw [nPh_put hi] at hq
    rw [u2_ne _ _ (by omega), p350 hi]
    refine ⟨(c3 q hq).1, fun k hk => ?_⟩
    rw [u2_ne _ _ (by omega), p360 hi]
    exact (c3 q hq).2 k hk
  · rw [nRu_put hi] at hr
    rw [u2_ne _ _ (by omega), tRu_put hi]
    exact c4 r hr w hw
end CO
/-- what is told has changed: what was may be taken back -/
def chg (s : Sp) (T' : Td) : Sp := (T', upU (sU s) (sN s) (sT s), upN (sN s), sL9 s, sB9 s, sF s, sX s)
theorem Good_chg {s : Sp} {T' : Td} (h : GoodS s) (hw : WF T') (he : ∀ j, 303 ≤ j → T' j = sT s j) : GoodS (chg s T') := by
  obtain ⟨h1, h2, h3, h4, h5⟩ := h
  have h2' : sN s ≤ 12 := h2
  refine ⟨hw, ?_, h3, fun k hk => ?_, h5⟩
  · show upN (sN s) ≤ 12
    unfold upN
    by_cases q : sN s = 12
    · rw [if_pos q]; omega
    · rw [if_neg q]; omega
  · have hk' : k < upN (sN s) := hk
    show WF (upU (sU s) (sN s) (sT s) k) ∧ ∀ j, 303 ≤ j → upU (sU s) (sN s) (sT s) k j = T' j
    unfold upN at hk'
    unfold upU
    by_cases q : sN s = 12
    · rw [if_pos q] at hk' ⊢
      show WF (if k = 11 then sT s else sU s (k + 1)) ∧ ∀ j, 303 ≤ j → (if k = 11 then sT s else sU s (k + 1)) j = T' j
      by_cases q2 : k = 11
      · rw [if_pos q2]; exact ⟨h1, fun j hj => (he j hj).symm⟩
      · rw [if_neg q2]
        have := h4 (k + 1) (show k + 1 < sN s by omega)
        exact ⟨this.1, fun j hj => by rw [this.2 j hj, he j hj]⟩
    · rw [if_neg q] at hk' ⊢
      show WF (if k = sN s then sT s else sU s k) ∧ ∀ j, 303 ≤ j → (if k = sN s then sT s else sU s k) j = T' j
      by_cases q2 : k = sN s
      · rw [if_pos q2]; exact ⟨h1, fun j hj => (he j hj).symm⟩
      · rw [if_neg q2]
        have := h4 k (show k < sN s by omega)
        exact ⟨this.1, fun j hj => by rw [this.2 j hj, he j hj]⟩
/-- the desk ahead of renewing -/
def PreC (s : Sp) (I : Nat → Nat → Int) (W : Nat → Nat → BitVec 64) (p : Nat → Nat) : Prop :=
  GoodS s ∧ (ClsT 34 (sT s) I ∧ AgesC (sT s) I) ∧ (PermP p ∧ ∀ k, k < sN s → ClsT (p k) (sU s k) I) ∧ (I 32 3 = sN s ∧ I 32 5 = sL9 s ∧ I 32 6 = sF s) ∧ (∀ k, k < sL9 s → I 109 k = sB9 s k) ∧ (∀ k, k < 3 → I 110 k = sX s k) ∧ ∀ t, t < 12 → ∀ y, 1000 ≤ y → y < 1024 → wb (W (221 + 2 + t)) y = false
section CH
variable {n : Nat} {c : Nat × Nat × Nat × Nat} {I : Nat → Nat → Int} {W : Nat → Nat → BitVec 64} {p : Nat → Nat} {s : Sp}
theorem q_renew (h : PreC s I W p) : ∃ I' W', D_X8_renew 32 (st true n c I W p) = some (st true n c I' W' p) ∧ IC s I' W' p ∧ HI I I' W W' := by
  obtain ⟨hg, ⟨a1, a2⟩, ⟨b1, b3⟩, c1, d1, e1, f1⟩ := h
  have hw : WF (sT s) := hg.1
  have hn := hw.1
  have hn' := hn
  unfold WFn at hn'
  obtain ⟨I', W', e, hN, h254, g1, w1⟩ := x8_renew (g := true) (n := n) (c := c) (I := I) (W := W) (p := p) hw a1 a2
  have ne : ∀ b k, ¬ (188 ≤ b ∧ b < 221) → b ≠ 254 → I' b k = I b k := fun b k q1 q2 => g1 b k (by unfold PRn PR PC; omega)
  have nw : ∀ b, ¬ (188 ≤ b ∧ b < 221) → W' b = W b := fun b q => w1 b (by unfold PRw PW; omega)
  have fT : ∀ T b, WFn T → (b + 74 ≤ 188 ∨ 255 ≤ b) → ClsT b T I → ClsT b T I' := fun T b hT hb h => h.fr (P := fun x _ => (188 ≤ x ∧ x < 221) ∨ x = 254) hT (fun x k q => ne x k (by omega) (by omega)) (fun a k q => by omega)
  refine ⟨I', W', e, ⟨hg, ⟨fT _ _ hn (by omega) a1, fun y hy => by rw [ne _ _ (by omega) (by omega)]; exact a2 y hy, hN⟩, ⟨b1.1, b1.2, fun k hk => ?_⟩, ?_, fun k hk => ?_, fun k hk => ?_, fun t ht y y1 y2 => by rw [nw _ (by omega)]; exact f1 t ht y y1 y2, Or.inl h254⟩, fun b k q => ne b k (by omega) (by omega), fun b q => nw b (by omega)⟩
  · have k12 : k < 12 := by have := hg.2.1; have hk2 : k < sN s := hk; omega
    obtain ⟨j, j1, j2⟩ := b1.1 k k12
    exact fT _ _ (hg.2.2.2.1 k hk).1.1 (by omega) (b3 k hk)
  · rw [ne _ _ (by omega) (by omega), ne _ _ (by omega) (by omega), ne _ _ (by omega) (by omega)]; exact c1
  · rw [ne _ _ (by omega) (by omega)]; exact d1 k hk
  · rw [ne _ _ (by omega) (by omega)]; exact e1 k hk
/-- kept for taking back -/
def Kept (s : Sp) (I I1 : Nat → Nat → Int) (p1 : Nat → Nat) : Prop := PermP p1 ∧ (∀ k, k < upN (sN s) → ClsT (p1 k) (upU (sU s) (sN s) (sT s) k) I1) ∧ I1 32 3 = upN (sN s) ∧ Fr (fun x k => (282 ≤ x ∧ x < 1170) ∨ (x = 32 ∧ k = 3)) I I1
theorem q_keep (h : IC s I W p) : ∃ I1 p1, D_X8_keepForUndo 32 (st true n c I W p) = some (st true n c I1 W p1) ∧ Kept s I I1 p1 ∧ ClsT 34 (sT s) I1 := by
  obtain ⟨I1, p1, e, k1, k2, k3, k4⟩ := x8_keepForUndo (g := true) (n := n) (c := c) (W := W) (p := p) (us := sN s) (U := sU s) h.w h.T ⟨h.2.2.1.1, h.2.2.1.2.1⟩ h.1.2.1 h.k.1 (fun k hk => ⟨(h.1.2.2.2.1 k hk).1, h.2.2.1.2.2 k hk⟩)
  exact ⟨I1, p1, e, ⟨k1, k2, k3, k4⟩, h.T.fr h.w.1 k4 (fun a k q => by omega)⟩
theorem q_chg {I1 I2 : Nat → Nat → Int} {p1 : Nat → Nat} {T' : Td} (h : IC s I W p) (hk : Kept s I I1 p1) (hf : Fr (fun x _ => 34 ≤ x ∧ x < 108) I1 I2) (hT : ClsT 34 T' I2) (hw : WF T') (he : ∀ j, 303 ≤ j → T' j = sT s j) :
    ∃ I' W', D_X8_renew 32 (st true n c I2 W p1) = some (st true n c I' W' p1) ∧ IC (chg s T') I' W' p1 ∧ HI I I' W W' := by
  obtain ⟨k1, k2, k3, k4⟩ := hk
  have hg := Good_chg h.1 hw he
  have ne : ∀ b k, ¬ (34 ≤ b ∧ b < 108) → ¬ (282 ≤ b ∧ b < 1170) → ¬ (b = 32 ∧ k = 3) → I2 b k = I b k := fun b k q1 q2 q3 => by rw [hf b k q1, k4 b k (by omega)]
  have pre : PreC (chg s T') I2 W p1 := by
    refine ⟨hg, ⟨hT, fun y hy => ?_⟩, ⟨k1, fun k hk => ?_⟩, ⟨?_, ?_, ?_⟩, fun k hk => ?_, fun k hk => ?_, h.c⟩
    · rw [ne _ _ (by omega) (by omega) (by omega)]
      show I 33 y = ageS T' y
      rw [ageS_c he]
      exact h.A y hy
    · have k12 : k < 12 := by have := hg.2.1; have hk2 : k < upN (sN s) := hk; have : upN (sN s) ≤ 12 := hg.2.1; omega
      obtain ⟨j, j1, j2⟩ := k1.1 k k12
      exact (k2 k hk).fr (hg.2.2.2.1 k hk).1.1 hf (fun a k q => by omega)
    · rw [hf _ _ (by omega)]; exact k3
    · rw [ne _ _ (by omega) (by omega) (by omega)]; exact h.k.2.1
    · rw [ne _ _ (by omega) (by omega) (by omega)]; exact h.k.2.2
    · rw [ne _ _ (by omega) (by omega) (by omega)]; exact h.2.2.2.2.1 k hk
    · rw [ne _ _ (by omega) (by omega) (by omega)]; exact h.2.2.2.2.2.1 k hk
  obtain ⟨I', W', e, hI, i1⟩ := q_renew (n := n) (c := c) pre
  refine ⟨I', W', e, hI, fun b k q => ?_, i1.2⟩
  rw [i1.1 b k q, ne _ _ (by omega) (by omega) (by omega)]
/-! the reference -/
theorem m_keep {J : Nat → Nat → Int} (h : IM s J) : ∃ J1, D_X9_laysBack 1170 (st true n c J W p) = some (st true n c J1 W p) ∧ (∀ k, k < upN (sN s) → ∀ j, j < 303 → J1 1174 (303 * k + j) = upU (sU s) (sN s) (sT s) k j) ∧ J1 1170 5 = upN (sN s) ∧ Fr (fun x k => x = 1174 ∨ (x = 1170 ∧ k = 5)) J J1 :=
  x9_laysBack h.1.2.1 h.T h.k.1 h.2.2.2.1
theorem m_chg {J J1 J2 : Nat → Nat → Int} {T' : Td} (h : IM s J) (k2 : ∀ k, k < upN (sN s) → ∀ j, j < 303 → J1 1174 (303 * k + j) = upU (sU s) (sN s) (sT s) k j) (k3 : J1 1170 5 = upN (sN s)) (k4 : Fr (fun x k => x = 1174 ∨ (x = 1170 ∧ k = 5)) J J1)
    (hf : Fr (fun x k => x = 1172 ∨ (x = 1170 ∧ (k = 16 ∨ k = 28))) J1 J2) (hT : RefT T' J2) (hF : RefF T' J2) (hw : WF T') (he : ∀ j, 303 ≤ j → T' j = sT s j) : IM (chg s T') J2 ∧ LO J J2 := by
  have ne : ∀ b k, b ≠ 1172 → b ≠ 1174 → ¬ (b = 1170 ∧ (k = 5 ∨ k = 16 ∨ k = 28)) → J2 b k = J b k := fun b k q1 q2 q3 => by rw [hf b k (by omega), k4 b k (by omega)]
  refine ⟨⟨Good_chg h.1 hw he, hT, hF, fun k hk j hj => by rw [hf _ _ (by omega)]; exact k2 k hk j hj, ⟨by rw [hf _ _ (by omega)]; exact k3, ?_, ?_, ?_, ?_⟩, fun k hk => ?_, fun k hk => ?_⟩, fun b k q => ne b k (by omega) (by omega) (by omega)⟩
  · rw [ne _ _ (by omega) (by omega) (by omega)]; exact h.k.2.1
  · rw [ne _ _ (by omega) (by omega) (by omega)]; exact h.k.2.2.1
  · rw [ne _ _ (by omega) (by omega) (by omega)]; exact h.k.2.2.2.1
  · rw [ne _ _ (by omega) (by omega) (by omega)]; exact h.k.2.2.2.2
  · rw [ne _ _ (by omega) (by omega) (by omega)]; exact h.2.2.2.2.2.1 k hk
  · rw [ne _ _ (by omega) (by omega) (by omega)]; exact h.2.2.2.2.2.2 k hk
theorem IM.z (h : IM s I) : IM s (zJ I) := h.ask (AskX_zJ h)
theorem LO_z : LO I (zJ I) := fun b k q => zJ_ne (by omega)
theorem LO.t {J K : Nat → Nat → Int} (h : LO I J) (h2 : LO J K) : LO I K := fun b k q => (h2 b k q).trans (h b k q)
theorem RefT_keep {T : Td} {J J1 : Nat → Nat → Int} (h : RefT T J) (k4 : Fr (fun x k => x = 1174 ∨ (x = 1170 ∧ k = 5)) J J1) : RefT T J1 := h.fr k4 (fun b k q => by omega)
end CH
