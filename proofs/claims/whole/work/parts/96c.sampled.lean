/-! THE PURE PART: samples, places, members and phases, asked on both sides -/
theorem lo_ex (q : Nat → Bool) (n : Nat) : ∃ v, LoP q n v := by
  induction n with
  | zero => exact ⟨-1, Or.inl ⟨fun z hz => absurd hz (Nat.not_lt_zero z), rfl⟩⟩
  | succ n ih =>
    obtain ⟨v, h⟩ := ih
    rcases h with ⟨h, h2⟩ | ⟨y, h1, h2, h3, h4⟩
    · cases e : q n
      · refine ⟨-1, Or.inl ⟨fun z hz => ?_, rfl⟩⟩
        by_cases w : z = n
        · rw [w, e]
        · exact h z (by omega)
      · exact ⟨(n : Int), Or.inr ⟨n, rfl, by omega, e, fun z hz => h z hz⟩⟩
    · exact ⟨v, Or.inr ⟨y, h1, by omega, h3, h4⟩⟩
theorem hi_ex (q : Nat → Bool) (n : Nat) : ∃ v, HiP q n v := by
  induction n with
  | zero => exact ⟨-1, Or.inl ⟨fun z hz => absurd hz (Nat.not_lt_zero z), rfl⟩⟩
  | succ n ih =>
    cases e : q n
    · obtain ⟨v, h⟩ := ih
      rcases h with ⟨h, h2⟩ | ⟨y, h1, h2, h3, h4⟩
      · refine ⟨-1, Or.inl ⟨fun z hz => ?_, rfl⟩⟩
        by_cases w : z = n
        · rw [w, e]
        · exact h z (by omega)
      · refine ⟨v, Or.inr ⟨y, h1, by omega, h3, fun z z1 z2 => ?_⟩⟩
        by_cases w : z = n
        · rw [w, e]
        · exact h4 z z1 (by omega)
    · exact ⟨(n : Int), Or.inr ⟨n, rfl, by omega, e, fun z z1 z2 => by omega⟩⟩
theorem LoP.emp {q : Nat → Bool} {v : Int} (h : LoP q 1000 v) : v = -1 ↔ ct q 1000 = 0 := by
  rcases h with ⟨a, b⟩ | ⟨y, a, b, d, e⟩
  · exact ⟨fun _ => ct_0.2 a, fun _ => b⟩
  · refine ⟨fun w => by omega, fun w => ?_⟩
    have := ct_0.1 w y b
    rw [d] at this
    cases this
theorem LoP.rng {q : Nat → Bool} {v : Int} (h : LoP q 1000 v) : -1 ≤ v ∧ v ≤ 999 := by
  rcases h with ⟨a, b⟩ | ⟨y, a, b, d, e⟩ <;> omega
theorem HiP.rng {q : Nat → Bool} {v : Int} (h : HiP q 1000 v) : -1 ≤ v ∧ v ≤ 999 := by
  rcases h with ⟨a, b⟩ | ⟨y, a, b, d, e⟩ <;> omega
theorem ct_trim {f S : Nat → Bool} (h : ∀ y, y < 1024 → f y = (decide (y < 1000) && S y)) : ct f 1024 = ct S 1000 := by
  have e : ct f (1000 + 24) = ct f 1000 + ct (fun k => f (1000 + k)) 24 := ct_add f 1000 24
  have z : ct (fun k => f (1000 + k)) 24 = 0 := ct_0.2 (fun k hk => by show f (1000 + k) = false; rw [h _ (by omega), decide_eq_false (by omega), Bool.false_and])
  have e2 : ct f 1000 = ct S 1000 := ct_cong (fun k hk => by rw [h k (by omega), decide_eq_true hk, Bool.true_and])
  show ct f (1000 + 24) = _
  rw [e, z, e2, Nat.add_zero]
/-- the earliest and the latest of all -/
theorem lohi_ex (T : Td) : ∃ lo hi : Nat → Int, ∀ s, LoP (lft T s) 1000 (lo s) ∧ HiP (lft T s) 1000 (hi s) :=
  ⟨fun s => (lo_ex (lft T s) 1000).choose, fun s => (hi_ex (lft T s) 1000).choose, fun s => ⟨(lo_ex (lft T s) 1000).choose_spec, (hi_ex (lft T s) 1000).choose_spec⟩⟩
def smpS (T : Td) (lo hi : Nat → Int) (s : Nat) (w : Int) : Int :=
  if w = 0 then tSa T s 0 else if w = 1 then tSa T s 1 else if w = 2 then tSa T s 2 else if w = 3 then (ct (FS T s) 1000 : Nat) else if w = 4 then (ct (lft T s) 1000 : Nat) else
  if w = 5 then lo s else if w = 6 then hi s else if w = 7 then ivN (lft T s) else if w = 8 then bestS T (lft T s) s else if bestS T (lft T s) s = -1 then -1 else misS T (T 1) s (bestS T (lft T s) s)
theorem best_rng {T : Td} {S : Nat → Bool} {s : Nat} : bestS T S s = -1 ∨ ∃ y : Nat, y < 1000 ∧ bestS T S s = y := by
  unfold bestS
  have L : ∀ (d y : Nat) (a : Int × Int), y + d = 1000 → (a.1 = -1 ∨ ∃ z : Nat, z < 1000 ∧ a.1 = z) → ((yf S (bstp (fun y => misS T (T 1) s y)) d y a).1 = -1 ∨ ∃ z : Nat, z < 1000 ∧ (yf S (bstp (fun y => misS T (T 1) s y)) d y a).1 = z) := by
    intro d
    induction d with
    | zero => intro y a _ h; exact h
    | succ d ih =>
      intro y a hy h
      refine ih (y + 1) _ (by omega) ?_
      by_cases q : S y = true
      · rw [if_pos q]
        unfold bstp
        by_cases q2 : a.1 = -1 ∨ misS T (T 1) s y < a.2
        · rw [if_pos q2]; exact Or.inr ⟨y, by omega, rfl⟩
        · rw [if_neg q2]; exact h
      · rw [if_neg q]; exact h
  exact L 1000 0 (-1, 0) rfl (Or.inl rfl)
section SM
variable {g : Bool} {n : Nat} {c : Nat × Nat × Nat × Nat} {I : Nat → Nat → Int} {W : Nat → Nat → BitVec 64} {p : Nat → Nat} {T : Td} {lo hi : Nat → Int}
theorem x8_sample21 {t : Nat} {w : Int} (hl : ∀ s, LoP (lft T s) 1000 (lo s) ∧ HiP (lft T s) 1000 (hi s)) (hw : WF T) (hT : ClsT 34 T I) (hA : AgesC T I) (hN : NowC T I W) (ht : (t : Int) < T 304) :
    D_X8_sample_21 32 (t : Int) w 1 32 (st g n c I W p) = some (Sum.inl (smpS T lo hi t w), st g n c I W p) := by
  have hw' := hw.1
  unfold WFn at hw'
  have t12 : t < 12 := by omega
  have hs : t < nSa T := by unfold nSa; omega
  have hS := (hT.2.2.1 t hs).1
  have hz := hN.2.1.2.1.2.1 t hs
  have hws := hw.2.2.1 t ht
  unfold D_X8_sample_21 smpS
  refine bdk z8T (bdk need1 ?_)
  show (if w = 0 then _ else _) = some (Sum.inl (if w = 0 then _ else _), _)
  by_cases c0 : w = 0
  · rw [if_pos c0, if_pos c0]
    refine bdk z8R1 (bdk (t5R8 TB34) (bdk (t5A3 TB34 (by omega) (by omega)) ?_))
    rw [toN]
    refine bdk (t4I TB34 t12) ?_
    rw [hS.1]
    show (if tSa T t 0 = 0 then D_X8_sample_96 0 _ else D_X8_sample_96 1 _) = _
    unfold D_X8_sample_96
    have h01 : tSa T t 0 = 0 ∨ tSa T t 0 = 1 := by unfold WFs at hws; omega
    by_cases z : tSa T t 0 = 0
    · rw [if_pos z, z]
    · rw [if_neg z, h01.resolve_left z]
  rw [if_neg c0, if_neg c0]
  by_cases c1 : w = 1
  · rw [if_pos c1, if_pos c1]
    refine bdk z8R1 (bdk (t5R8 TB34) (bdk (t5A3 TB34 (by omega) (by omega)) ?_))
    rw [toN]
    refine bdk (t4I TB34 t12) ?_
    rw [hS.2.1]
  rw [if_neg c1, if_neg c1]
  by_cases c2 : w = 2
  · rw [if_pos c2, if_pos c2]
    refine bdk z8R1 (bdk (t5R8 TB34) (bdk (t5A3 TB34 (by omega) (by omega)) ?_))
    rw [toN]
    refine bdk (t4I TB34 t12) ?_
    rw [hS.2.2]
  rw [if_neg c2, if_neg c2]
  by_cases c3 : w = 3
  · rw [if_pos c3, if_pos c3]
    refine bdk z8R9 (bdk (n0R2 nb188) (bdk (n0A1 nb188 (by omega) (by omega)) ?_))
    rw [toN]
    refine bdk (count_k (n0H2 nb188 t12)) ?_
    have e : ct (wb (W (188 + 2 + t))) 1024 = ct (FS T t) 1000 := by
      rw [ct_trim (fun y hy => hN.1 t hs y hy)]
    rw [e]
  rw [if_neg c3, if_neg c3]
  by_cases c4 : w = 4
  · rw [if_pos c4, if_pos c4]
    refine bdk z8R9 (bdk (n0R4 nb188) (bdk (n0L27 nb188 (by omega) (by omega)) ?_))
    rw [toN, hz.1]
    rfl
  rw [if_neg c4, if_neg c4]
  by_cases c5 : w = 5
  · rw [if_pos c5, if_pos c5]
    refine bdk z8R9 (bdk (n0R5 nb188) (bdk (n0L28 nb188 (by omega) (by omega)) ?_))
    rw [toN, hz.2.1.uniq (hl t).1]
  rw [if_neg c5, if_neg c5]
  by_cases c6 : w = 6
  · rw [if_pos c6, if_pos c6]
    refine bdk z8R9 (bdk (n0R6 nb188) (bdk (n0L29 nb188 (by omega) (by omega)) ?_))
    rw [toN, hz.2.2.uniq (hl t).2]
  rw [if_neg c6, if_neg c6]
  by_cases c7 : w = 7
  · rw [if_pos c7, if_pos c7]
    refine bdk z8R9 (bdk (n0R3 nb188) (bdk (n0A14 nb188 (by omega) (by omega)) ?_))
    rw [toN]
    exact bdk (x7_intervals (n0H15 nb188 t12) (hN.row hs)) rfl
  rw [if_neg c7, if_neg c7]
  by_cases c8 : w = 8
  · rw [if_pos c8, if_pos c8]
    exact bdk z8R9 (bdk (n0T nb188) (bdk (x0_bestYear nb188 hw hT hA ht (hN.row hs)) rfl))
  rw [if_neg c8, if_neg c8]
  refine bdk z8R9 (bdk (n0T nb188) (bdk (x0_bestYear nb188 hw hT hA ht (hN.row hs)) (bdk z8T ?_)))
  rcases best_rng (T := T) (S := lft T t) (s := t) with q | ⟨y, hy, q⟩
  · rw [q, if_pos rfl]
    refine bdk (x := (-1 : Int)) ?_ rfl
    unfold D_X8_misfitOf
    rw [if_neg (by decide)]
    rfl
  · rw [q, if_neg (by omega)]
    exact bdk (x8_misfitOf hw hT hA ht hy) rfl
theorem x8_sample {t w : Int} (hl : ∀ s, LoP (lft T s) 1000 (lo s) ∧ HiP (lft T s) 1000 (hi s)) (hw : WF T) (hT : ClsT 34 T I) (hA : AgesC T I) (hN : NowC T I W) :
    D_X8_sample 32 t w (st g n c I W p) = if 0 ≤ t ∧ t < T 304 then (if 0 ≤ w ∧ w ≤ 9 then some (Sum.inl (smpS T lo hi t.toNat w), st g n c I W p) else some (Sum.inr 1, st g n (xc c) (rI I 1) W p)) else some (Sum.inr 0, st g n (xc c) (rI I 0) W p) := by
  have no : D_X8_sample_20 32 t w 32 (st g n c I W p) = some (Sum.inr 1, st g n (xc c) (rI I 1) W p) := by
    unfold D_X8_sample_20 D_X8_sample_21
    exact bdk z8T (bdk need0 rfl)
  unfold D_X8_sample
  refine bdk z8T ?_
  rw [needSample_k hT]
  by_cases q : 0 ≤ t ∧ t < T 304
  · rw [if_pos q, if_pos q]
    refine bdk rfl ?_
    show (if w < 0 then _ else _) = _
    by_cases q1 : w < 0
    · rw [if_pos q1, if_neg (by omega)]; exact no
    rw [if_neg q1]
    by_cases q2 : 9 < w
    · rw [if_pos q2, if_neg (by omega)]; exact no
    rw [if_neg q2, if_pos (by omega)]
    obtain ⟨t, rfl⟩ := Int.eq_ofNat_of_zero_le q.1
    rw [toN]
    exact x8_sample21 hl hw hT hA hN q.2
  · rw [if_neg q, if_neg q]
    exact bdk rfl rfl
end SM
section SN
variable {n : Nat} {s : Sp}
theorem x9_sample {c : Nat × Nat × Nat × Nat} {I : Nat → Nat → Int} {W : Nat → Nat → BitVec 64} {p : Nat → Nat} {lo hi : Nat → Int} {t : Nat} {w : Int} (hl : ∀ t, LoP (lft (sT s) t) 1000 (lo t) ∧ HiP (lft (sT s) t) 1000 (hi t)) (h : IM s I) (ht : (t : Int) < sT s 304) (hq : 0 ≤ w ∧ w ≤ 9) :
    ∃ I', D_X9_sample 1170 (t : Int) w (st true n c I W p) = some (smpS (sT s) lo hi t w, st true n c I' W p) ∧ AskX (sT s) I I' ∧ I' 1170 0 = 0 := by
  have hw' := h.w.1
  unfold WFn at hw'
  have t12 : t < 12 := by omega
  have hs : t < nSa (sT s) := by unfold nSa; omega
  obtain ⟨I', e, hA, hX, h0, hS⟩ := laysX (n := n) (c := c) (W := W) (p := p) h
  refine ⟨I', ?_, hX, h0⟩
  have hF := hA.2.2.1.2.2.1
  rw [FP_plain] at hF
  unfold D_X9_sample smpS
  refine bdk z9Z (bdk z9T ?_)
  rw [isSample_k h.w.1 (zJ_T h.T) zJ0, if_pos ⟨by omega, ht⟩]
  refine bdk rfl ?_
  show (if (1 : Int) = 0 then _ else _) = _
  rw [if_neg (by decide)]
  refine bdk within_k ?_
  rw [if_pos hq]
  refine bdk z9T (bdk (fine1 zJ0) ?_)
  show (if (1 : Int) ≠ 0 then _ else _) = _
  rw [if_pos (by decide)]
  refine bdk z9T (bdk e ?_)
  by_cases c0 : w = 0
  · subst c0
    rw [if_pos rfl, if_pos rfl]
    exact bdk z9T (bdk (x9_sampleAt (w := 0) t12 (by decide) hA.1) rfl)
  rw [if_neg c0, if_neg c0]
  by_cases c1 : w = 1
  · subst c1
    rw [if_pos rfl, if_pos rfl]
    exact bdk z9T (bdk (x9_sampleAt (w := 1) t12 (by decide) hA.1) rfl)
  rw [if_neg c1, if_neg c1]
  by_cases c2 : w = 2
  · subst c2
    rw [if_pos rfl, if_pos rfl]
    exact bdk z9T (bdk (x9_sampleAt (w := 2) t12 (by decide) hA.1) rfl)
  rw [if_neg c2, if_neg c2]
  by_cases c3 : w = 3
  · rw [if_pos c3, if_pos c3]
    refine bdk z9R13 (bdk (z9A13 (by omega) (by omega)) (bdk z9T ?_))
    rw [toN]
    exact bdk (x9_size 1170 (rh13 t t12) (fun y hy => hF t hs y hy)) rfl
  rw [if_neg c3, if_neg c3]
  by_cases c4 : w = 4
  · rw [if_pos c4, if_pos c4]
    refine bdk z9R14 (bdk (z9A14 (by omega) (by omega)) (bdk z9T ?_))
    rw [toN]
    exact bdk (x9_size 1170 (rh14 t t12) (fun y hy => hS t hs y hy)) rfl
  rw [if_neg c4, if_neg c4]
  by_cases c5 : w = 5
  · rw [if_pos c5, if_pos c5]
    obtain ⟨v, ev, hv⟩ := x9_earliest (n := n) (c := c) (W := W) (p := p) t12 (hS t hs)
    rw [(hl t).1.uniq hv]
    exact bdk z9T (bdk ev rfl)
  rw [if_neg c5, if_neg c5]
  by_cases c6 : w = 6
  · rw [if_pos c6, if_pos c6]
    obtain ⟨v, ev, hv⟩ := x9_latest (n := n) (c := c) (W := W) (p := p) t12 (hS t hs)
    rw [(hl t).2.uniq hv]
    exact bdk z9T (bdk ev rfl)
  rw [if_neg c6, if_neg c6]
  by_cases c7 : w = 7
  · rw [if_pos c7, if_pos c7]
    refine bdk z9R14 (bdk (z9A14 (by omega) (by omega)) (bdk z9T ?_))
    rw [toN]
    exact bdk (x9_intervals (rh14 t t12) (hS t hs)) rfl
  rw [if_neg c7, if_neg c7]
  have eb := x9_bestYear (n := n) (c := c) (W := W) (p := p) h.w hA.1 ht (hS t hs)
  by_cases c8 : w = 8
  · rw [if_pos c8, if_pos c8]
    exact bdk z9T (bdk eb rfl)
  rw [if_neg c8, if_neg c8]
  refine bdk z9T (bdk eb ?_)
  unfold D_X9_sample_169
  rcases best_rng (T := sT s) (S := lft (sT s) t) (s := t) with q | ⟨y, hy, q⟩
  · rw [q, if_neg (fun w => w rfl), if_pos rfl]
  · have nb : ¬ bestS (sT s) (lft (sT s) t) t = -1 := by omega
    rw [if_pos nb, if_neg nb]
    refine bdk z9T (bdk eb (bdk z9T ?_))
    rw [q]
    exact bdk (x9_misfit h.w hA.1 ht hy) rfl
theorem a_sample {t w : Int} : Agree n (D_X8_sample 32 t w) (D_X9_sample 1170 t w) cmB s := by
  obtain ⟨lo, hi, hl⟩ := lohi_ex (sT s)
  by_cases q : 0 ≤ t ∧ t < sT s 304
  · by_cases q2 : 0 ≤ w ∧ w ≤ 9
    · refine ag_v (x := smpS (sT s) lo hi t.toNat w) (q8v fun c I W p h => ?_) (q9v fun c I W p h => ?_)
      · rw [x8_sample hl h.w h.T h.A h.N, if_pos q, if_pos q2]
      · obtain ⟨t, rfl⟩ := Int.eq_ofNat_of_zero_le q.1
        rw [toN]
        exact x9_sample hl h q.2 q2
    · refine ag_r (e := 1) (q8r (by decide) fun c I W p h => ?_) (v := 0) (code := 2) (q9r (by decide) fun c I W p h => ⟨zJ I, ?_, AskX_zJ h⟩) rfl (by decide)
      · rw [x8_sample hl h.w h.T h.A h.N, if_pos q, if_neg q2]
      · unfold D_X9_sample D_X9_sample_29
        refine bdk z9Z (bdk z9T ?_)
        rw [isSample_k h.w.1 (zJ_T h.T) zJ0, if_pos q]
        refine bdk rfl ?_
        show (if (1 : Int) = 0 then _ else _) = _
        rw [if_neg (by decide)]
        refine bdk within_k ?_
        rw [if_neg q2]
        refine bdk z9T (bdk (fine0 (kind := 1) (by decide) (by decide) zJ0) ?_)
        show (if (0 : Int) ≠ 0 then _ else _) = _
        rw [if_neg (by decide)]
  · refine ag_r (e := 0) (q8r (by decide) fun c I W p h => ?_) (v := 0) (code := 1) (q9r (by decide) fun c I W p h => ⟨zJ I, ?_, AskX_zJ h⟩) rfl (by decide)
    · rw [x8_sample hl h.w h.T h.A h.N, if_neg q]
    · unfold D_X9_sample D_X9_sample_29
      refine bdk z9Z (bdk z9T ?_)
      rw [isSample_k h.w.1 (zJ_T h.T) zJ0, if_neg q]
      refine bdk rfl ?_
      show (if (0 : Int) = 0 then _ else _) = _
      rw [if_pos rfl]
/-! places -/
def plcS (T : Td) (t y : Nat) : Int := if lft T t y = true then 3 else if FS T t y = true then 1 else 0
theorem a_place {t y : Int} : Agree n (D_X8_place 32 t y) (D_X9_place 1170 t y) cmN s := by
  by_cases q : 0 ≤ t ∧ t < sT s 304
  · by_cases q2 : 0 ≤ y ∧ y < 1000
    · refine ag_v (x := plcS (sT s) t.toNat y.toNat) (q8v fun c I W p h => ?_) (q9v fun c I W p h => ?_)
      · have hw' := h.w.1
        unfold WFn at hw'
        obtain ⟨t, rfl⟩ := Int.eq_ofNat_of_zero_le q.1
        obtain ⟨y, rfl⟩ := Int.eq_ofNat_of_zero_le q2.1
        have t12 : t < 12 := by omega
        have hs : t < nSa (sT s) := by unfold nSa; omega
        rw [toN, toN]
        unfold D_X8_place D_X8_place_49 plcS
        refine bdk z8T ?_
        rw [needSample_k h.T, if_pos q]
        refine bdk rfl (bdk z8T ?_)
        rw [needYear_k, if_pos q2]
        refine bdk rfl (bdk z8R9 (bdk (n0R3 nb188) (bdk (n0A14 nb188 (by omega) (by omega)) ?_)))
        rw [toN]
        refine bdk (has_k (n0H15 nb188 t12) (by omega)) ?_
        rw [(h.N.row hs).at (by omega)]
        by_cases c1 : lft (sT s) t y = true
        · rw [if_pos c1, if_pos c1]
          show (if (1 : Int) = 0 then _ else _) = _
          rw [if_neg (by decide)]
        · rw [if_neg c1, if_neg c1]
          show (if (0 : Int) = 0 then _ else _) = _
          rw [if_pos rfl]
          refine bdk z8R9 (bdk (n0R2 nb188) (bdk (n0A1 nb188 (by omega) (by omega)) ?_))
          rw [toN]
          refine bdk (has_k (n0H2 nb188 t12) (by omega)) ?_
          rw [h.N.1 t hs y (by omega), show decide (y < 1000) = true from decide_eq_true (by omega), Bool.true_and]
          by_cases c2 : FS (sT s) t y = true
          · rw [if_pos c2]
            show (if (1 : Int) = 0 then _ else _) = _
            rw [if_neg (by decide)]
          · rw [if_neg c2]
            show (if (0 : Int) = 0 then _ else _) = _
            rw [if_pos rfl]
      · have hw' := h.w.1
        unfold WFn at hw'
        obtain ⟨t, rfl⟩ := Int.eq_ofNat_of_zero_le q.1
        obtain ⟨y, rfl⟩ := Int.eq_ofNat_of_zero_le q2.1
        have t12 : t < 12 := by omega
        have hs : t < nSa (sT s) := by unfold nSa; omega
        obtain ⟨I', e, hA, hX, h0, hS⟩ := laysX (n := n) (c := c) (W := W) (p := p) h
        have hF := hA.2.2.1.2.2.1
        rw [FP_plain] at hF
        refine ⟨I', ?_, hX, h0⟩
        rw [toN, toN]
        unfold D_X9_place D_X9_place_58 plcS
        refine bdk z9Z (bdk z9T ?_)
        rw [isSample_k h.w.1 (zJ_T h.T) zJ0, if_pos q]
        refine bdk rfl ?_
        show (if (1 : Int) = 0 then _ else _) = _
        rw [if_neg (by decide)]
        refine bdk z9T ?_
        rw [isYear_k zJ0, if_pos (by omega)]
        refine bdk rfl ?_
        show (if (1 : Int) ≠ 0 then _ else _) = _
        rw [if_pos (by decide)]
        refine bdk z9T (bdk e (bdk z9R14 (bdk (z9A14 (by omega) (by omega)) ?_)))
        rw [toN]
        refine bdk (z9L14 t12 (by omega) (by omega)) ?_
        rw [toN, hS t hs y (by omega)]
        unfold bI
        by_cases c1 : lft (sT s) t y = true
        · rw [if_pos c1, if_pos c1]
          show (if (1 : Int) = 0 then _ else _) = _
          rw [if_neg (by decide)]
        · rw [if_neg c1, if_neg c1]
          show (if (0 : Int) = 0 then _ else _) = _
          rw [if_pos rfl]
          refine bdk z9R13 (bdk (z9A13 (by omega) (by omega)) ?_)
          rw [toN]
          refine bdk (z9L13 t12 (by omega) (by omega)) ?_
          rw [toN, hF t hs y (by omega)]
          unfold bI
          by_cases c2 : FS (sT s) t y = true
          · rw [if_pos c2]
            show (if (1 : Int) = 0 then _ else _) = _
            rw [if_neg (by decide)]
          · rw [if_neg c2]
            show (if (0 : Int) = 0 then _ else _) = _
            rw [if_pos rfl]
    · refine ag_r (e := 0) (q8r (by decide) fun c I W p h => ?_) (v := 0) (code := 1) (q9r (by decide) fun c I W p h => ⟨zJ I, ?_, AskX_zJ h⟩) rfl (by decide)
      · unfold D_X8_place
        refine bdk z8T ?_
        rw [needSample_k h.T, if_pos q]
        refine bdk rfl (bdk z8T ?_)
        rw [needYear_k, if_neg q2]
        exact bdk rfl rfl
      · unfold D_X9_place D_X9_place_21
        refine bdk z9Z (bdk z9T ?_)
        rw [isSample_k h.w.1 (zJ_T h.T) zJ0, if_pos q]
        refine bdk rfl ?_
        show (if (1 : Int) = 0 then _ else _) = _
        rw [if_neg (by decide)]
        refine bdk z9T ?_
        rw [isYear_k zJ0, if_neg (by omega)]
        refine bdk rfl ?_
        show (if (0 : Int) ≠ 0 then _ else _) = _
        rw [if_neg (by decide)]
  · refine ag_r (e := 0) (q8r (by decide) fun c I W p h => ?_) (v := 0) (code := 1) (q9r (by decide) fun c I W p h => ⟨zJ I, ?_, AskX_zJ h⟩) rfl (by decide)
    · unfold D_X8_place
      refine bdk z8T ?_
      rw [needSample_k h.T, if_neg q]
      exact bdk rfl rfl
    · unfold D_X9_place D_X9_place_21
      refine bdk z9Z (bdk z9T ?_)
      rw [isSample_k h.w.1 (zJ_T h.T) zJ0, if_neg q]
      refine bdk rfl ?_
      show (if (0 : Int) = 0 then _ else _) = _
      rw [if_pos rfl]
end SN
