/-! THE PURE PART: set and redate, on both sides -/
section ST
variable {n : Nat} {c : Nat × Nat × Nat × Nat} {I : Nat → Nat → Int} {W : Nat → Nat → BitVec 64} {p : Nat → Nat} {s : Sp}
theorem x8_set61 {i : Nat} {v x3 : Int} (hi : i < 2) (hx : x3 = if i = 0 then 1 else 0) (hw : WF (putT (sT s) i v)) (h : IC s I W p) :
    ∃ I' W' p', D_X8_set_61 32 v x3 1 32 (st true n c I W p) = some (Sum.inl (sT s i), st true n c I' W' p') ∧ IC (chg s (putT (sT s) i v)) I' W' p' ∧ HI I I' W W' := by
  obtain ⟨I1, p1, e1, k1, t1⟩ := q_keep (n := n) (c := c) h
  obtain ⟨I3, W3, e3, h3, i3⟩ := q_chg (n := n) (c := c) (I2 := u2 I1 34 i v) (T' := putT (sT s) i v) h k1 (fun b k q => u2_ne _ _ (by omega)) (ClsT_put h.w.1 hi t1) hw (fun j hj => putT_hi hi (by omega))
  refine ⟨I3, W3, p1, ?_, h3, i3⟩
  unfold D_X8_set_61 D_X8_set_89 D_X8_set_114
  refine bdk z8T (bdk need1 (bdk z8T (bdk e1 ?_)))
  by_cases q : i = 0
  · subst q
    rw [if_pos rfl] at hx
    subst hx
    show (if (1 : Int) = 0 then _ else _) = _
    rw [if_neg (by decide)]
    refine bdk z8R1 (bdk (t5I TB34) ?_)
    rw [t1.1.1]
    show (if (1 : Int) = 0 then _ else _) = _
    rw [if_neg (by decide)]
    exact bdk z8R1 (bdk (t5P TB34) (bdk z8T (bdk e3 rfl)))
  · have i1 : i = 1 := by omega
    subst i1
    rw [if_neg (by decide)] at hx
    subst hx
    show (if (0 : Int) = 0 then _ else _) = _
    rw [if_pos rfl]
    refine bdk z8R1 (bdk (t5I TB34) ?_)
    rw [t1.1.2.1]
    show (if (0 : Int) = 0 then _ else _) = _
    rw [if_pos rfl]
    exact bdk z8R1 (bdk (t5P TB34) (bdk z8T (bdk e3 rfl)))
theorem x9_set42 {i : Nat} {v : Int} (hi : i < 2) (hw : WF (putT (sT s) i v)) (h : IM s I) :
    ∃ I', D_X9_set_42 1170 (i : Int) v 1 1170 (st true n c (zJ I) W p) = some (sT s i, st true n c I' W p) ∧ IM (chg s (putT (sT s) i v)) I' ∧ LO I I' ∧ I' 1170 0 = 0 := by
  obtain ⟨J1, e1, k2, k3, k4⟩ := m_keep (n := n) (c := c) (W := W) (p := p) h.z
  have t1 := RefT_keep h.z.T k4
  have hT2 : RefT (putT (sT s) i v) (u2 (u2 J1 1172 i v) 1170 16 0) := (RefT_put hi t1).fr (P := fun b k => b = 1170 ∧ k = 16) (fun b k q => u2_ne _ _ q) (fun b k q => by omega)
  have ne : ∀ b k, ¬ (b = 1170 ∧ k = 16) → ¬ (b = 1172) → u2 (u2 J1 1172 i v) 1170 16 0 b k = J1 b k := fun b k q1 q2 => by rw [u2_ne _ _ q1, u2_ne _ _ (by omega)]
  have hF2 : RefF (putT (sT s) i v) (u2 (u2 J1 1172 i v) 1170 16 0) := ⟨Or.inl (by rw [u2_eq]), by rw [ne _ _ (by omega) (by omega), k4 _ _ (by omega)]; exact h.z.F.2.1, fun q => by rw [u2_eq] at q; cases q⟩
  obtain ⟨m1, m2⟩ := m_chg (J := zJ I) (J2 := u2 (u2 J1 1172 i v) 1170 16 0) h.z k2 k3 k4 (fun b k q => ne b k (by omega) (by omega)) hT2 hF2 hw (fun j hj => putT_hi hi (by omega))
  refine ⟨_, ?_, m1, LO_z.t m2, by rw [ne _ _ (by omega) (by omega), k4 _ _ (by omega), zJ0]⟩
  unfold D_X9_set_42
  refine bdk z9T (bdk (fine1 zJ0) ?_)
  show (if (1 : Int) ≠ 0 then _ else _) = _
  rw [if_pos (by decide)]
  refine bdk z9T (bdk e1 (bdk z9R2 (bdk (z9L2 (by omega) (by omega)) (bdk z9R2 (bdk (z9S2 (by omega) (by omega)) (bdk (z9B (Or.inl rfl)) ?_))))))
  rw [toN, t1.1 i (by omega)]
theorem a_set {w v : Int} : Agree n (D_X8_set 32 w v) (D_X9_set 1170 w v) cmA s := by
  by_cases h0 : w = 0 ∧ 1 ≤ v ∧ v ≤ 3
  · obtain ⟨rfl, v1, v2⟩ := h0
    refine ag_v (x := sT s 0) (s' := chg s (putT (sT s) 0 v)) (fun c I W p h => ?_) (fun c I W p h => ?_)
    · obtain ⟨I', W', p', e, h', i'⟩ := x8_set61 (n := n) (c := c) (i := 0) (v := v) (x3 := 1) (by decide) rfl (WF_put (by decide) h.w ⟨fun _ => ⟨v1, v2⟩, fun q => by omega⟩) h
      refine ⟨c, I', W', p', ?_, h', i', cn0⟩
      unfold D_X8_set D_X8_set_19 D_X8_set_43 D_X8_set_44 D_X8_set_56
      rw [if_neg (by decide), if_neg (by omega), if_neg (by omega), if_pos (by decide), if_pos (by decide)]
      exact e
    · obtain ⟨I', e, m1, m2, m3⟩ := x9_set42 (n := n) (c := c) (W := W) (p := p) (i := 0) (v := v) (by decide) (WF_put (by decide) h.w ⟨fun _ => ⟨v1, v2⟩, fun q => by omega⟩) h
      refine ⟨I', ?_, m1, m2, m3⟩
      unfold D_X9_set
      refine bdk z9Z ?_
      rw [if_neg (by decide)]
      refine bdk within_k ?_
      rw [if_pos ⟨v1, v2⟩]
      exact e
  · by_cases h1 : w = 1 ∧ -500 ≤ v ∧ v ≤ 500
    · obtain ⟨rfl, v1, v2⟩ := h1
      refine ag_v (x := sT s 1) (s' := chg s (putT (sT s) 1 v)) (fun c I W p h => ?_) (fun c I W p h => ?_)
      · obtain ⟨I', W', p', e, h', i'⟩ := x8_set61 (n := n) (c := c) (i := 1) (v := v) (x3 := 0) (by decide) rfl (WF_put (by decide) h.w ⟨fun q => by omega, fun _ => ⟨v1, v2⟩⟩) h
        refine ⟨c, I', W', p', ?_, h', i', cn0⟩
        unfold D_X8_set D_X8_set_18 D_X8_set_19 D_X8_set_44 D_X8_set_56
        rw [if_pos (by decide), if_neg (by decide), if_neg (by omega), if_neg (by omega), if_neg (by decide), if_neg (by decide)]
        exact e
      · obtain ⟨I', e, m1, m2, m3⟩ := x9_set42 (n := n) (c := c) (W := W) (p := p) (i := 1) (v := v) (by decide) (WF_put (by decide) h.w ⟨fun q => by omega, fun _ => ⟨v1, v2⟩⟩) h
        refine ⟨I', ?_, m1, m2, m3⟩
        unfold D_X9_set
        refine bdk z9Z ?_
        rw [if_pos (by decide), if_neg (by decide)]
        refine bdk within_k ?_
        rw [if_pos (show -500 ≤ v ∧ v ≤ 500 from ⟨v1, v2⟩), if_neg (by decide)]
        exact e
    · refine ag_r (e := 1) (q8r (by decide) fun c I W p h => ?_) (v := 0) (code := 1) (q9r (by decide) fun c I W p h => ⟨zJ I, ?_, AskX_zJ h⟩) rfl (by decide)
      · have no : D_X8_set_44 32 v 0 0 (st true n c I W p) = some (Sum.inr 1, st true n (xc c) (rI I 1) W p) := by
          unfold D_X8_set_44 D_X8_set_61
          rw [if_neg (by decide), if_pos rfl]
          exact bdk z8T (bdk need0 rfl)
        have no2 : D_X8_set_19 32 w v 0 (st true n c I W p) = some (Sum.inr 1, st true n (xc c) (rI I 1) W p) := by
          unfold D_X8_set_19 D_X8_set_43
          by_cases q1 : w ≠ 1
          · rw [if_pos q1]; exact no
          rw [if_neg q1]
          by_cases q2 : v < -500
          · rw [if_pos q2]; exact no
          rw [if_neg q2, if_pos (by omega)]
          exact no
        unfold D_X8_set D_X8_set_18
        by_cases q1 : w ≠ 0
        · rw [if_pos q1]; exact no2
        rw [if_neg q1]
        by_cases q2 : v < 1
        · rw [if_pos q2]; exact no2
        rw [if_neg q2, if_pos (by omega)]
        exact no2
      · have no : D_X9_set_42 1170 w v 0 1170 (st true n c (zJ I) W p) = some (0, st true n c (rJ (zJ I) 1 1) W p) := by
          unfold D_X9_set_42
          refine bdk z9T (bdk (fine0 (kind := 1) (by decide) (by decide) zJ0) ?_)
          show (if (0 : Int) ≠ 0 then _ else _) = _
          rw [if_neg (by decide)]
        unfold D_X9_set D_X9_set_41
        refine bdk z9Z ?_
        by_cases q1 : w ≠ 0
        · rw [if_pos q1]
          by_cases q2 : w ≠ 1
          · rw [if_pos q2]; exact no
          rw [if_neg q2]
          refine bdk within_k ?_
          rw [if_neg (show ¬ (-500 ≤ v ∧ v ≤ 500) by omega), if_pos rfl]
          exact no
        · rw [if_neg q1]
          refine bdk within_k ?_
          rw [if_neg (by omega)]
          exact no
end ST
/-! redate -/
def redT (T : Td) (t : Nat) (a e : Int) : Td := fun j => if 123 + 15 * t ≤ j ∧ j < 138 + 15 * t then (if j = 124 + 15 * t then a else if j = 125 + 15 * t then e else 0) else T j
section RDT
variable {T : Td} {t : Nat} {a e : Int}
theorem redT_ne {j : Nat} (h : ¬ (123 + 15 * t ≤ j ∧ j < 138 + 15 * t)) : redT T t a e j = T j := if_neg h
theorem redT_0 : tSa (redT T t a e) t 0 = 0 := by
  show (if 123 + 15 * t ≤ 123 + 15 * t + 0 ∧ 123 + 15 * t + 0 < 138 + 15 * t then (if 123 + 15 * t + 0 = 124 + 15 * t then a else if 123 + 15 * t + 0 = 125 + 15 * t then e else 0) else T (123 + 15 * t + 0)) = 0
  rw [if_pos (by omega), if_neg (by omega), if_neg (by omega)]
theorem redT_1 : tSa (redT T t a e) t 1 = a := by
  show (if 123 + 15 * t ≤ 123 + 15 * t + 1 ∧ 123 + 15 * t + 1 < 138 + 15 * t then (if 123 + 15 * t + 1 = 124 + 15 * t then a else if 123 + 15 * t + 1 = 125 + 15 * t then e else 0) else T (123 + 15 * t + 1)) = a
  rw [if_pos (by omega), if_pos (by omega)]
theorem redT_2 : tSa (redT T t a e) t 2 = e := by
  show (if 123 + 15 * t ≤ 123 + 15 * t + 2 ∧ 123 + 15 * t + 2 < 138 + 15 * t then (if 123 + 15 * t + 2 = 124 + 15 * t then a else if 123 + 15 * t + 2 = 125 + 15 * t then e else 0) else T (123 + 15 * t + 2)) = e
  rw [if_pos (by omega), if_neg (by omega), if_pos (by omega)]
theorem redT_s {q w : Nat} (hq : q ≠ t) (hw : w < 15) : tSa (redT T t a e) q w = tSa T q w := redT_ne (by omega)
theorem WF_red (hw : WF T) (ht : (t : Int) < T 304) (ha : 0 ≤ a ∧ a ≤ 9999) (he : 0 ≤ e ∧ e ≤ 999) : WF (redT T t a e) := by
  have hn := hw.1
  unfold WFn at hn
  refine WF_c hw ?_ (fun j hj => redT_ne (by omega)) (fun q hq => ?_) (fun r hr => ?_)
  · unfold WFn
    rw [redT_ne (j := 0) (by omega), redT_ne (j := 1) (by omega), redT_ne (j := 2) (by omega), redT_ne (j := 303) (by omega), redT_ne (j := 304) (by omega), redT_ne (j := 305) (by omega)]
    exact hn
  · by_cases z : q = t
    · subst z
      unfold WFs
      rw [redT_0, redT_1, redT_2]
      exact Or.inl ⟨rfl, ha, he⟩
    · exact WFs_c (fun w hw => redT_s z hw) (hw.2.2.1 q hq)
  · rw [redT_ne (j := 2) (by omega)] at hr
    exact WFr_c (q := r) (fun w hw => redT_ne (by omega)) (redT_ne (by omega)) (redT_ne (by omega)) (hw.2.2.2.2 r hr)
theorem ClsT_red {I : Nat → Nat → Int} {b : Nat} (hw : WF T) (ht : (t : Int) < T 304) (h : ClsT b T I) : ClsT b (redT T t a e) (u2 (u2 (u2 I (b + 6 + 3 * t) 0 0) (b + 6 + 3 * t) 1 a) (b + 6 + 3 * t) 2 e) := by
  have hn := hw.1
  unfold WFn at hn
  obtain ⟨⟨a1, a2, a3, a4, a5, a6⟩, c1, c2, c3, c4⟩ := h
  have ne : ∀ x k, x ≠ b + 6 + 3 * t → u2 (u2 (u2 I (b + 6 + 3 * t) 0 0) (b + 6 + 3 * t) 1 a) (b + 6 + 3 * t) 2 e x k = I x k := fun x k q => by rw [u2_ne _ _ (by omega), u2_ne _ _ (by omega), u2_ne _ _ (by omega)]
  have s12 : nSa T ≤ 12 := by unfold nSa; omega
  have hp : nPh T ≤ 4 := by unfold nPh; omega
  have e3 : nKn (redT T t a e) = nKn T := by unfold nKn; rw [redT_ne (by omega)]
  have e4 : nSa (redT T t a e) = nSa T := by unfold nSa; rw [redT_ne (by omega)]
  have e5 : nPh (redT T t a e) = nPh T := by unfold nPh; rw [redT_ne (by omega)]
  have e6 : nRu (redT T t a e) = nRu T := by unfold nRu; rw [redT_ne (by omega)]
  have hr24 : nRu T ≤ 24 := by unfold nRu; omega
  refine ⟨⟨?_, ?_, ?_, ?_, ?_, ?_⟩, fun k hk => ?_, fun q hq => ?_, fun q hq => ?_, fun r hr w hw => ?_⟩
  · rw [ne _ _ (by omega), redT_ne (by omega)]; exact a1
  · rw [ne _ _ (by omega), redT_ne (by omega)]; exact a2
  · rw [ne _ _ (by omega), redT_ne (by omega)]; exact a3
  · rw [ne _ _ (by omega), redT_ne (by omega)]; exact a4
  · rw [ne _ _ (by omega), redT_ne (by omega)]; exact a5
  · rw [ne _ _ (by omega), redT_ne (by omega)]; exact a6
  · rw [e3] at hk
    rw [ne _ _ (by omega), ne _ _ (by omega), redT_ne (by omega), redT_ne (by omega)]
    exact c1 k hk
  · rw [e4] at hq
    by_cases z : q = t
    · subst z
      rw [redT_0, redT_1, redT_2]
      refine ⟨⟨?_, ?_, ?_⟩, fun w => absurd w (by decide)⟩
      · rw [u2_ne _ _ (by omega), u2_ne _ _ (by omega), u2_eq]
      · rw [u2_ne _ _ (by omega), u2_eq]
      · rw [u2_eq]
    · rw [redT_s z (by decide), redT_s z (by decide), redT_s z (by decide), ne _ _ (by omega), ne _ _ (by omega), ne _ _ (by omega)]
      refine ⟨(c2 q hq).1, fun r1 k hk => ?_⟩
      have hq2 : (q : Int) < T 304 := by unfold nSa at hq; omega
      have ws := hw.2.2.1 q hq2
      have k6 : k < 6 := by
        unfold WFs at ws
        rcases ws with ws | ws
        · omega
        · have := ws.2.2.1.2; omega
      rw [ne _ _ (by omega), ne _ _ (by omega), redT_s z (by omega), redT_s z (by omega)]
      exact (c2 q hq).2 r1 k hk
  · rw [e5] at hq
    rw [ne _ _ (by omega), redT_ne (by omega)]
    refine ⟨(c3 q hq).1, fun k hk => ?_⟩
    rw [ne _ _ (by omega), redT_ne (by omega)]
    exact (c3 q hq).2 k hk
  · rw [e6] at hr
    have : tRu (redT T t a e) r w = tRu T r w := redT_ne (by omega)
    rw [ne _ _ (by omega), this]
    exact c4 r hr w hw
end RDT

section RDC
variable {n : Nat} {c : Nat × Nat × Nat × Nat} {I : Nat → Nat → Int} {W : Nat → Nat → BitVec 64} {p : Nat → Nat} {s : Sp}
theorem x8_redate33 {t : Nat} {a e : Int} (ht : (t : Int) < sT s 304) (ha : 0 ≤ a ∧ a ≤ 9999) (he : 0 ≤ e ∧ e ≤ 999) (h : IC s I W p) :
    ∃ I' W' p', D_X8_redate_33 32 (t : Int) a e 1 32 (st true n c I W p) = some (Sum.inl (tSa (sT s) t 0), st true n c I' W' p') ∧ IC (chg s (redT (sT s) t a e)) I' W' p' ∧ HI I I' W W' := by
  have hn := h.w.1
  unfold WFn at hn
  have t12 : t < 12 := by omega
  have hs : t < nSa (sT s) := by unfold nSa; omega
  obtain ⟨I1, p1, e1, k1, t1⟩ := q_keep (n := n) (c := c) h
  have t1s := (t1.2.2.1 t hs).1.1
  have ws := h.w.2.2.1 t ht
  have z01 : tSa (sT s) t 0 = 0 ∨ tSa (sT s) t 0 = 1 := by unfold WFs at ws; omega
  obtain ⟨I3, W3, e3, h3, i3⟩ := q_chg (n := n) (c := c) (I2 := u2 (u2 (u2 I1 (34 + 6 + 3 * t) 0 0) (34 + 6 + 3 * t) 1 a) (34 + 6 + 3 * t) 2 e) (T' := redT (sT s) t a e) h k1 (fun b k q => by rw [u2_ne _ _ (by omega), u2_ne _ _ (by omega), u2_ne _ _ (by omega)]) (ClsT_red h.w ht t1) (WF_red h.w ht ha he) (fun j hj => redT_ne (by omega))
  refine ⟨I3, W3, p1, ?_, h3, i3⟩
  have tail : ∀ v : Int, v = tSa (sT s) t 0 → D_X8_redate_64 32 a e (34 + 6 + 3 * t) v (st true n c I1 W p1) = some (Sum.inl (tSa (sT s) t 0), st true n c I3 W3 p1) := by
    intro v hv
    subst hv
    unfold D_X8_redate_64
    exact bdk (t4B TB34 t12 (Or.inl rfl)) (bdk (t4P TB34 t12) (bdk (t4P TB34 t12) (bdk z8T (bdk e3 rfl))))
  unfold D_X8_redate_33
  refine bdk z8T (bdk need1 (bdk z8T (bdk e1 (bdk z8R1 (bdk (t5R8 TB34) (bdk (t5A3 TB34 (by omega) (by omega)) ?_))))))
  rw [toN]
  refine bdk (t4I TB34 t12) ?_
  rw [t1s]
  show (if tSa (sT s) t 0 = 0 then _ else _) = _
  by_cases z : tSa (sT s) t 0 = 0
  · rw [if_pos z]; exact tail 0 z.symm
  · rw [if_neg z]; exact tail 1 (z01.resolve_left z).symm
/-- one sample's row made nothing -/
theorem x9_red71 {t : Nat} (t12 : t < 12) : ∀ (d k f : Nat) (I1 : Nat → Nat → Int), k + d = 15 → d < f → ∃ I', D_X9_redate_71 f 1170 (t : Int) (k : Nat) (st true n c I1 W p) = some (st true n c I' W p) ∧ (∀ j, k ≤ j → j < 15 → I' 1172 (123 + 15 * t + j) = 0) ∧ Fr (fun x j => x = 1172 ∧ 123 + 15 * t + k ≤ j ∧ j < 138 + 15 * t) I1 I' := by
  intro d
  induction d with
  | zero =>
    intro k f I1 hk hf
    obtain ⟨f, rfl⟩ : ∃ g, f = g + 1 := ⟨f - 1, by omega⟩
    exact ⟨I1, if_pos (by omega), fun j j1 j2 => by omega, Fr.rfl'⟩
  | succ d ih =>
    intro k f I1 hk hf
    obtain ⟨f, rfl⟩ : ∃ g, f = g + 1 := ⟨f - 1, by omega⟩
    obtain ⟨I', e, g1, g2⟩ := ih (k + 1) f (u2 I1 1172 (123 + 15 * t + k) 0) (by omega) (by omega)
    refine ⟨I', ?_, fun j j1 j2 => ?_, fun b j q => ?_⟩
    · show (if (15 : Int) ≤ (k : Nat) then _ else _) = _
      rw [if_neg (by omega), mw_of (x := 15 * (t : Int)) (by omega) (by omega), mw_of (x := 123 + 15 * (t : Int)) (by omega) (by omega), mw_of (x := 123 + 15 * (t : Int) + (k : Nat)) (by omega) (by omega)]
      refine bdk z9R2 (bdk (z9S2 (by omega) (by omega)) ?_)
      rw [show (123 + 15 * (t : Int) + (k : Nat)).toNat = 123 + 15 * t + k by omega, mw_n (by omega)]
      exact e
    · by_cases z : j = k
      · subst z
        rw [g2 _ _ (by omega), u2_eq]
      · exact g1 j (by omega) j2
    · rw [g2 b j (by omega), u2_ne _ _ (by omega)]
theorem x9_redate41 {t : Nat} {a e : Int} (ht : (t : Int) < sT s 304) (ha : 0 ≤ a ∧ a ≤ 9999) (he : 0 ≤ e ∧ e ≤ 999) (h : IM s I) :
    ∃ I', D_X9_redate_41 1170 (t : Int) a e 1 1170 (st true n c (zJ I) W p) = some (tSa (sT s) t 0, st true n c I' W p) ∧ IM (chg s (redT (sT s) t a e)) I' ∧ LO I I' ∧ I' 1170 0 = 0 := by
  have hn := h.w.1
  unfold WFn at hn
  have t12 : t < 12 := by omega
  obtain ⟨J1, e1, k2, k3, k4⟩ := m_keep (n := n) (c := c) (W := W) (p := p) h.z
  have t1 := RefT_keep h.z.T k4
  have t2 : RefT (sT s) (u2 J1 1170 16 0) := t1.fr (P := fun b k => b = 1170 ∧ k = 16) (fun b k q => u2_ne _ _ q) (fun b k q => by omega)
  obtain ⟨J3, e3, z3, f3⟩ := x9_red71 (n := n) (c := c) (W := W) (p := p) t12 15 0 mFU (u2 J1 1170 16 0) rfl (by decide)
  generalize hJ4 : u2 (u2 J3 1172 (123 + 15 * t + 1) a) 1172 (123 + 15 * t + 2) e = J4
  have ne : ∀ b k, ¬ (b = 1172 ∧ 123 + 15 * t ≤ k ∧ k < 138 + 15 * t) → ¬ (b = 1170 ∧ k = 16) → J4 b k = J1 b k := fun b k q1 q2 => by rw [← hJ4, u2_ne _ _ (by omega), u2_ne _ _ (by omega), f3 _ _ (by omega), u2_ne _ _ q2]
  have h16 : J4 1170 16 = 0 := by rw [← hJ4, u2_ne _ _ (by omega), u2_ne _ _ (by omega), f3 _ _ (by omega), u2_eq]
  have hT4 : RefT (redT (sT s) t a e) J4 := by
    obtain ⟨r1, r2, r3, r4, r5, r6, r7, r8⟩ := t1
    refine ⟨fun j hj => ?_, ?_, ?_, ?_, fun k hk => ?_, fun k hk => ?_, fun k hk => ?_, fun k hk => ?_⟩
    · by_cases z : 123 + 15 * t ≤ j ∧ j < 138 + 15 * t
      · show J4 1172 j = if 123 + 15 * t ≤ j ∧ j < 138 + 15 * t then (if j = 124 + 15 * t then a else if j = 125 + 15 * t then e else 0) else sT s j
        rw [if_pos z, ← hJ4]
        by_cases q1 : j = 124 + 15 * t
        · rw [if_pos q1, u2_ne _ _ (by omega), q1, show 123 + 15 * t + 1 = 124 + 15 * t by omega, u2_eq]
        · rw [if_neg q1]
          by_cases q2 : j = 125 + 15 * t
          · rw [if_pos q2, q2, show 123 + 15 * t + 2 = 125 + 15 * t by omega, u2_eq]
          · rw [if_neg q2, u2_ne _ _ (by omega), u2_ne _ _ (by omega), show j = 123 + 15 * t + (j - (123 + 15 * t)) by omega]
            exact z3 _ (by omega) (by omega)
      · rw [redT_ne z, ne _ _ (by omega) (by omega)]; exact r1 j hj
    · rw [ne _ _ (by omega) (by omega), redT_ne (by omega)]; exact r2
    · rw [ne _ _ (by omega) (by omega), redT_ne (by omega)]; exact r3
    · rw [ne _ _ (by omega) (by omega), redT_ne (by omega)]; exact r4
    · rw [ne _ _ (by omega) (by omega), redT_ne (by omega)]; exact r5 k hk
    · rw [ne _ _ (by omega) (by omega), redT_ne (by omega)]; exact r6 k hk
    · rw [ne _ _ (by omega) (by omega), redT_ne (by omega)]; exact r7 k hk
    · rw [ne _ _ (by omega) (by omega), redT_ne (by omega)]; exact r8 k hk
  have hF4 : RefF (redT (sT s) t a e) J4 := ⟨Or.inl h16, by rw [ne _ _ (by omega) (by omega), k4 _ _ (by omega)]; exact h.z.F.2.1, fun q => by rw [h16] at q; cases q⟩
  obtain ⟨m1, m2⟩ := m_chg (J := zJ I) (J2 := J4) h.z k2 k3 k4 (fun b k q => ne b k (by omega) (by omega)) hT4 hF4 (WF_red h.w ht ha he) (fun j hj => redT_ne (by omega))
  refine ⟨J4, ?_, m1, LO_z.t m2, by rw [ne _ _ (by omega) (by omega), k4 _ _ (by omega), zJ0]⟩
  unfold D_X9_redate_41
  refine bdk z9T (bdk (fine1 zJ0) ?_)
  show (if (1 : Int) ≠ 0 then _ else _) = _
  rw [if_pos (by decide)]
  refine bdk z9T (bdk e1 (bdk (z9B (Or.inl rfl)) (bdk z9T (bdk (x9_sampleAt (w := 0) t12 (by decide) t2) (bdk e3 ?_)))))
  rw [mw_of (x := 15 * (t : Int)) (by omega) (by omega), mw_of (x := 123 + 15 * (t : Int)) (by omega) (by omega), mw_of (x := 123 + 15 * (t : Int) + 1) (by omega) (by omega), mw_of (x := 123 + 15 * (t : Int) + 2) (by omega) (by omega)]
  refine bdk z9R2 (bdk (z9S2 (by omega) (by omega)) (bdk z9R2 (bdk (z9S2 (by omega) (by omega)) ?_)))
  rw [show (123 + 15 * (t : Int) + 1).toNat = 123 + 15 * t + 1 by omega, show (123 + 15 * (t : Int) + 2).toNat = 123 + 15 * t + 2 by omega, hJ4]
theorem a_redate {t a e : Int} : Agree n (D_X8_redate 32 t a e) (D_X9_redate 1170 t a e) cmB s := by
  by_cases ct : 0 ≤ t ∧ t < sT s 304
  · by_cases ca : (0 ≤ a ∧ a ≤ 9999) ∧ 0 ≤ e ∧ e ≤ 999
    · obtain ⟨t, rfl⟩ := Int.eq_ofNat_of_zero_le ct.1
      refine ag_v (x := tSa (sT s) t 0) (s' := chg s (redT (sT s) t a e)) (fun c I W p h => ?_) (fun c I W p h => ?_)
      · obtain ⟨I', W', p', e1, h', i'⟩ := x8_redate33 (n := n) (c := c) (a := a) (e := e) ct.2 ca.1 ca.2 h
        refine ⟨c, I', W', p', ?_, h', i', cn0⟩
        unfold D_X8_redate
        refine bdk z8T ?_
        rw [needSample_k h.T, if_pos ct]
        refine bdk rfl ?_
        show (if a < 0 then _ else _) = _
        rw [if_neg (by omega), if_neg (by omega), if_neg (by omega), if_neg (by omega)]
        exact e1
      · obtain ⟨I', e1, m1, m2, m3⟩ := x9_redate41 (n := n) (c := c) (W := W) (p := p) (a := a) (e := e) ct.2 ca.1 ca.2 h
        refine ⟨I', ?_, m1, m2, m3⟩
        unfold D_X9_redate
        refine bdk z9Z (bdk z9T ?_)
        rw [isSample_k h.w.1 (zJ_T h.T) zJ0, if_pos ct]
        refine bdk rfl ?_
        show (if (1 : Int) = 0 then _ else _) = _
        rw [if_neg (by decide)]
        refine bdk within_k ?_
        rw [if_pos ca.1, if_neg (by decide)]
        refine bdk within_k ?_
        rw [if_pos ca.2, if_neg (by decide)]
        exact e1
    · refine ag_r (e := 1) (q8r (by decide) fun c I W p h => ?_) (v := 0) (code := 2) (q9r (by decide) fun c I W p h => ⟨zJ I, ?_, AskX_zJ h⟩) rfl (by decide)
      · have no : D_X8_redate_32 32 t a e 32 (st true n c I W p) = some (Sum.inr 1, st true n (xc c) (rI I 1) W p) := by
          unfold D_X8_redate_32 D_X8_redate_33
          exact bdk z8T (bdk need0 rfl)
        unfold D_X8_redate
        refine bdk z8T ?_
        rw [needSample_k h.T, if_pos ct]
        refine bdk rfl ?_
        show (if a < 0 then _ else _) = _
        by_cases q1 : a < 0
        · rw [if_pos q1]; exact no
        rw [if_neg q1]
        by_cases q2 : 9999 < a
        · rw [if_pos q2]; exact no
        rw [if_neg q2]
        by_cases q3 : e < 0
        · rw [if_pos q3]; exact no
        rw [if_neg q3, if_pos (by omega)]
        exact no
      · have no : D_X9_redate_41 1170 t a e 0 1170 (st true n c (zJ I) W p) = some (0, st true n c (rJ (zJ I) 2 1) W p) := by
          unfold D_X9_redate_41 D_X9_redate_49
          refine bdk z9T (bdk (fine0 (kind := 1) (by decide) (by decide) zJ0) ?_)
          show (if (0 : Int) ≠ 0 then _ else _) = _
          rw [if_neg (by decide)]
        unfold D_X9_redate D_X9_redate_40
        refine bdk z9Z (bdk z9T ?_)
        rw [isSample_k h.w.1 (zJ_T h.T) zJ0, if_pos ct]
        refine bdk rfl ?_
        show (if (1 : Int) = 0 then _ else _) = _
        rw [if_neg (by decide)]
        refine bdk within_k ?_
        by_cases q1 : 0 ≤ a ∧ a ≤ 9999
        · rw [if_pos q1, if_neg (by decide)]
          refine bdk within_k ?_
          rw [if_neg (show ¬ (0 ≤ e ∧ e ≤ 999) by omega), if_pos rfl]
          exact no
        · rw [if_neg q1, if_pos rfl]
          exact no
  · refine ag_r (e := 0) (q8r (by decide) fun c I W p h => ?_) (v := 0) (code := 1) (q9r (by decide) fun c I W p h => ⟨zJ I, ?_, AskX_zJ h⟩) rfl (by decide)
    · unfold D_X8_redate
      refine bdk z8T ?_
      rw [needSample_k h.T, if_neg ct]
      exact bdk rfl rfl
    · unfold D_X9_redate D_X9_redate_49
      refine bdk z9Z (bdk z9T ?_)
      rw [isSample_k h.w.1 (zJ_T h.T) zJ0, if_neg ct]
      refine bdk rfl ?_
      show (if (0 : Int) = 0 then _ else _) = _
      rw [if_pos rfl]
end RDC
