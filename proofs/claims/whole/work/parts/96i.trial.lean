/-! THE PURE PART: the trial, asked on both sides -/
section TQ
variable {n : Nat} {s : Sp}
/-- the trial's own places alone have changed -/
theorem IC.tri {I I' : Nat → Nat → Int} {W : Nat → Nat → BitVec 64} {p : Nat → Nat} (h : IC s I W p) (hf : Fr PTr I I') (h1 : I' 254 1 = 1) (ht : Tri (sT s) I') : IC s I' W p := by
  have hI : ∀ b k, ¬ (254 ≤ b ∧ b < 282) → I' b k = I b k := fun b k q => hf b k (by unfold PTr PM; omega)
  obtain ⟨hg, ⟨a1, a2, a3⟩, ⟨b1, b2, b3⟩, c1, d1, e1, f1, g1⟩ := h
  have hw := hg.1
  have hn := hw.1
  have hn' := hn
  unfold WFn at hn'
  have fT : ∀ T b, WFn T → (b + 74 ≤ 254 ∨ 282 ≤ b) → ClsT b T I → ClsT b T I' := fun T b hT hb h => h.fr (P := fun x _ => 254 ≤ x ∧ x < 282) hT (fun x k q => hI x k q) (fun a k q => by omega)
  refine ⟨hg, ⟨fT _ _ hn (by omega) a1, fun y hy => by rw [hI _ _ (by omega)]; exact a2 y hy, ?_⟩, ⟨b1, b2, fun k hk => ?_⟩, ?_, fun k hk => ?_, fun k hk => ?_, f1, Or.inr ⟨h1, ht⟩⟩
  · obtain ⟨n1, ⟨m1, ⟨k1, k2, k3, k4, k5, k6⟩, m3⟩, n3⟩ := a3
    refine ⟨n1, ⟨fT _ _ hn (by omega) m1, ⟨k1, fun t ht => ?_, fun r hr => ?_, ?_, ?_, ?_⟩, m3⟩, ?_⟩
    · rw [hI _ _ (by omega), hI _ _ (by omega), hI _ _ (by omega)]; exact k2 t ht
    · rw [hI _ _ (by omega)]; exact k3 r hr
    · rw [hI _ _ (by omega)]; exact k4
    · rw [hI _ _ (by omega)]; exact k5
    · rw [hI _ _ (by omega)]; exact k6
    · rw [hI _ _ (by omega)]; exact n3
  · have k12 : k < 12 := by have := hg.2.1; have hk2 : k < sN s := hk; omega
    obtain ⟨j, j1, j2⟩ := b1 k k12
    exact fT _ _ (hg.2.2.2.1 k hk).1.1 (by omega) (b3 k hk)
  · rw [hI _ _ (by omega), hI _ _ (by omega), hI _ _ (by omega)]; exact c1
  · rw [hI _ _ (by omega)]; exact d1 k hk
  · rw [hI _ _ (by omega)]; exact e1 k hk
theorem q_seek {c : Nat × Nat × Nat × Nat} {I : Nat → Nat → Int} {W : Nat → Nat → BitVec 64} {p : Nat → Nat} (h : IC s I W p) : ∃ I', D_X6_seek 254 (st true n c I W p) = some (st true n c I' W p) ∧ Tri (sT s) I' ∧ IC s I' W p ∧ HI I I' W W := by
  obtain ⟨I', e, h1, ht, hf⟩ := x6_seek (g := true) (n := n) (c := c) (p := p) h.w h.T h.N h.2.2.2.2.2.2.2
  exact ⟨I', e, ht, h.tri hf h1 ht, ⟨fun b k q => hf b k (by unfold PTr PM; omega), fun _ _ => rfl⟩⟩
theorem a_trial {x : Int} : Agree n (D_X8_trial 32 x) (D_X9_trial 1170 x) cmA s := by
  by_cases cx : 0 ≤ x ∧ x ≤ 1
  · refine ag_v (x := if x = 0 then (trS (sT s)).1 else ((trS (sT s)).2.1 : Nat)) (s' := s) (fun c I W p h => ?_) (q9v fun c I W p h => ?_)
    · obtain ⟨I1, e1, t1, h1, i1⟩ := q_seek (n := n) (c := c) h
      refine ⟨c, I1, W, p, ?_, h1, i1, cn0⟩
      have go : D_X8_trial_10 32 x 32 (st true n c I W p) = some (Sum.inl (if x = 0 then (trS (sT s)).1 else ((trS (sT s)).2.1 : Nat)), st true n c I1 W p) := by
        unfold D_X8_trial_10 D_X8_trial_15 D_X8_trial_46
        refine bdk z8T (bdk need1 (bdk z8R11 (bdk t6T (bdk e1 ?_))))
        show (if x ≠ 0 then _ else _) = _
        by_cases c0 : x = 0
        · rw [if_neg (fun w => w c0), if_pos c0]
          refine bdk z8R11 (bdk t6I ?_)
          rw [t1.1]
        · rw [if_pos c0, if_neg c0]
          refine bdk z8R11 (bdk t6I ?_)
          rw [t1.2.1]
      unfold D_X8_trial
      by_cases c0 : x = 0
      · rw [if_pos c0]; exact go
      · rw [if_neg c0, if_neg (fun w => w (by omega))]; exact go
    · obtain ⟨I1, e1, hQ, h52, -⟩ := x9_tries (n := n) (c := c) (W := W) (p := p) h.w h.T h.F h.k.2.2.2.1 h.k.2.2.2.2
      refine ⟨I1, ?_, AskX_Q h hQ, hQ.2.1.2⟩
      unfold D_X9_trial D_X9_trial_39
      refine bdk z9Z (bdk within_k ?_)
      rw [if_pos cx]
      refine bdk z9T (bdk (fine1 zJ0) ?_)
      show (if (1 : Int) ≠ 0 then _ else _) = _
      rw [if_pos (by decide)]
      refine bdk z9T (bdk e1 ?_)
      show (if x ≠ 0 then _ else _) = _
      by_cases c0 : x = 0
      · rw [if_neg (fun w => w c0), if_pos c0]
      · rw [if_pos c0, if_neg c0]
        refine bdk z9I ?_
        rw [h52]
  · refine ag_r (e := 1) (q8r (by decide) fun c I W p h => ?_) (v := 0) (code := 1) (q9r (by decide) fun c I W p h => ⟨zJ I, ?_, AskX_zJ h⟩) rfl (by decide)
    · unfold D_X8_trial D_X8_trial_15
      rw [if_neg (by omega), if_pos (by omega)]
      exact bdk z8T (bdk need0 rfl)
    · unfold D_X9_trial
      refine bdk z9Z (bdk within_k ?_)
      rw [if_neg cx]
      refine bdk z9T (bdk (fine0 (kind := 1) (by decide) (by decide) zJ0) ?_)
      show (if (0 : Int) ≠ 0 then _ else _) = _
      rw [if_neg (by decide)]
theorem a_tried {t : Int} : Agree n (D_X8_tried 32 t) (D_X9_tried 1170 t) cmN s := by
  by_cases ct : 0 ≤ t ∧ t < sT s 304
  · refine ag_v (x := if (trS (sT s)).1 = 1 then (trS (sT s)).2.2 t.toNat else -1) (s' := s) (fun c I W p h => ?_) (q9v fun c I W p h => ?_)
    · have hn' := h.w.1
      unfold WFn at hn'
      obtain ⟨I1, e1, t1, h1, i1⟩ := q_seek (n := n) (c := c) h
      refine ⟨c, I1, W, p, ?_, h1, i1, cn0⟩
      unfold D_X8_tried D_X8_tried_36
      refine bdk z8T ?_
      rw [needSample_k h.T, if_pos ct]
      refine bdk rfl (bdk z8R11 (bdk t6T (bdk e1 (bdk z8R11 (bdk t6I ?_)))))
      rw [t1.1]
      show (if (trS (sT s)).1 ≠ 1 then _ else _) = _
      by_cases c0 : (trS (sT s)).1 = 1
      · rw [if_neg (fun w => w c0), if_pos c0]
        refine bdk z8R11 (bdk t6R0 (bdk (t6L (by omega) (by omega)) ?_))
        rw [t1.2.2 c0 t.toNat (by unfold nSa; omega)]
      · rw [if_pos c0, if_neg c0]
    · have hn' := h.w.1
      unfold WFn at hn'
      obtain ⟨I1, e1, hQ, -, h42⟩ := x9_tries (n := n) (c := c) (W := W) (p := p) h.w h.T h.F h.k.2.2.2.1 h.k.2.2.2.2
      refine ⟨I1, ?_, AskX_Q h hQ, hQ.2.1.2⟩
      unfold D_X9_tried D_X9_tried_33
      refine bdk z9Z (bdk z9T ?_)
      rw [isSample_k h.w.1 (zJ_T h.T) zJ0, if_pos ct]
      refine bdk rfl ?_
      show (if (1 : Int) ≠ 0 then _ else _) = _
      rw [if_pos (by decide)]
      refine bdk z9T (bdk e1 ?_)
      show (if (trS (sT s)).1 ≠ 1 then _ else _) = _
      by_cases c0 : (trS (sT s)).1 = 1
      · rw [if_neg (fun w => w c0), if_pos c0]
        refine bdk z9R51 (bdk (z9L51 (by omega) (by omega)) ?_)
        rw [h42 c0 t.toNat (by unfold nSa; omega)]
      · rw [if_pos c0, if_neg c0]
  · refine ag_r (e := 0) (q8r (by decide) fun c I W p h => ?_) (v := 0) (code := 1) (q9r (by decide) fun c I W p h => ⟨zJ I, ?_, AskX_zJ h⟩) rfl (by decide)
    · unfold D_X8_tried
      refine bdk z8T ?_
      rw [needSample_k h.T, if_neg ct]
      exact bdk rfl rfl
    · unfold D_X9_tried
      refine bdk z9Z (bdk z9T ?_)
      rw [isSample_k h.w.1 (zJ_T h.T) zJ0, if_neg ct]
      refine bdk rfl ?_
      show (if (0 : Int) ≠ 0 then _ else _) = _
      rw [if_neg (by decide)]
end TQ
