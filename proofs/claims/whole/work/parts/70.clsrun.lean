/-! THE PURE PART: the desk's runs -/
theorem cs_cut {r s : Nat} {keep : Nat → Bool} {N : NS} (h : nCs N ≠ -2) : nCs (cutN r s keep N) = nCs N := if_neg (fun q => h q.2.1)
theorem cs_doL {r : Nat} : ∀ (l : List Op) (N : NS), nCs N ≠ -2 → nCs (doL r l N) = nCs N := by
  intro l
  induction l with
  | nil => intro N _; rfl
  | cons o l ih =>
    intro N h
    have e : nCs (doO r o N) = nCs N := cs_cut h
    show nCs (doL r l (doO r o N)) = _
    rw [ih _ (by rw [e]; exact h), e]
theorem cs_rnd {T : Td} {skip : Int} : ∀ (d r : Nat) (N : NS), nCs N ≠ -2 → nCs (rndN T skip d r N) = nCs N := by
  intro d
  induction d with
  | zero => intro r N _; rfl
  | succ d ih =>
    intro r N h
    have e : nCs (if (r : Int) = skip then N else doL r (opsR T r) N) = nCs N := by
      split
      · rfl
      · exact cs_doL _ _ h
    show nCs (rndN T skip d (r + 1) _) = _
    rw [ih _ _ (by rw [e]; exact h), e]
theorem cs_run {T : Td} {skip : Int} : ∀ (f k : Nat) (N : NS), nCs N ≠ -2 → nCs (runN T skip f k N).1 = nCs N := by
  intro f
  induction f with
  | zero => intro k N _; rfl
  | succ f ih =>
    intro k N h
    have e : nCs (rndN T skip (nRu T) 0 (ch0 N)) = nCs N := cs_rnd _ _ _ h
    have e2 : runN T skip (f + 1) k N = if nCh (rndN T skip (nRu T) 0 (ch0 N)) = 0 then (rndN T skip (nRu T) 0 (ch0 N), k + 1) else runN T skip f (k + 1) (rndN T skip (nRu T) 0 (ch0 N)) := rfl
    rw [e2]
    split
    · exact e
    · rw [ih _ _ (by rw [e]; exact h), e]
/-- what a run writes -/
def PR (b : Nat) (a k : Nat) : Prop := PC b a k ∨ (a = b ∧ (k = 8 ∨ k = 13))
def FirstC (b m : Nat) (F : Nat → Nat → Bool) (W : Nat → Nat → BitVec 64) : Prop := ∀ s, s < m → ∀ y, y < 1024 → wb (W (b + 2 + s)) y = (decide (y < 1000) && F s y)
section CR
variable {g : Bool} {n : Nat} {c : Nat × Nat × Nat × Nat} {I : Nat → Nat → Int} {W : Nat → Nat → BitVec 64} {p : Nat → Nat} {b : Nat} {N : NS} {T : Td}
theorem PR_T (h : NB b) : ∀ a k, PR b a k → a < 34 ∨ 34 + 74 ≤ a := fun a k q => by rcases h with rfl | rfl <;> unfold PR PC at q <;> omega
theorem x0_hasClash (h : NB b) : D_X0_hasClash b (st g n c I W p) = some (if I b 10 = -2 then 0 else 1) := by
  unfold D_X0_hasClash
  refine bdk (n0I h) ?_
  by_cases q : I b 10 = -2
  · rw [if_pos q, if_pos q]; rfl
  · rw [if_neg q, if_neg q]; rfl
theorem RNC.put13 {x : Int} (hn : WFn T) (h : NB b) (hN : RNC b T N I W) : RNC b T N (u2 I b 13 x) W := by
  obtain ⟨h1, ⟨a1, a2, a3, a4, a5, a6⟩, h3⟩ := hN
  refine ⟨h1.fr (P := fun a k => a = b ∧ k = 13) hn (fun a k q => by rw [u2_def, if_neg q]) (fun a k q => by rcases h with rfl | rfl <;> omega), ⟨a1, fun s hs => ?_, fun r hr => ?_, ?_, ?_, ?_⟩, h3⟩
  · rw [u2_def, if_neg (by omega), u2_def, if_neg (by omega), u2_def, if_neg (by omega)]; exact a2 s hs
  · rw [u2_def, if_neg (by omega)]; exact a3 r hr
  · rw [u2_def, if_neg (by omega)]; exact a4
  · rw [u2_def, if_neg (by omega)]; exact a5
  · rw [u2_def, if_neg (by omega)]; exact a6
theorem x0_38 {skip u : Int} (h : NB b) (hw : WF T) (hu : u = 0 ∨ u = 1) : ∀ (d r f : Nat) (I : Nat → Nat → Int) (W : Nat → Nat → BitVec 64) (N : NS), (r : Int) + d = T 2 → d < f → RNC b T N I W →
    ∃ I' W' R, D_X0_run_38 f b skip u (r : Nat) (st g n c I W p) = some R ∧ ((R = Sum.inl (st g n c I' W' p) ∧ RNC b T (rndN T skip d r N) I' W') ∨ (u = 1 ∧ R = Sum.inr (st g n c I' W' p) ∧ I' b 10 ≠ -2 ∧ nCs (rndN T skip d r N) ≠ -2)) ∧ Fr (fun a k => PC b a k ∨ (a = b ∧ k = 13)) I I' ∧ (∀ x, ¬ PW b x → W' x = W x) := by
  have hn := hw.1
  have hn' := hn
  unfold WFn at hn'
  intro d
  induction d with
  | zero =>
    intro r f I W N hr hf hN
    obtain ⟨f, rfl⟩ : ∃ g, f = g + 1 := ⟨f - 1, by omega⟩
    refine ⟨I, W, _, bdk (n0R0 h) (bdk (t5I TB34) ?_), Or.inl ⟨rfl, hN⟩, Fr.rfl', fun _ _ => rfl⟩
    rw [hN.1.1.2.2.2.2.2]
    exact if_pos (by omega)
  | succ d ih =>
    intro r f I W N hr hf hN
    obtain ⟨f, rfl⟩ : ∃ g, f = g + 1 := ⟨f - 1, by omega⟩
    have r24 : r < 24 := by omega
    have head : ∀ {X : Option (mS ⊕ mS)}, (if u = 0 then D_X0_run_62 (D_X0_run_38 f) b skip u (r : Int) (st g n c I W p) else if I b 10 = -2 then D_X0_run_62 (D_X0_run_38 f) b skip u (r : Int) (st g n c I W p) else some (Sum.inr (st g n c I W p))) = X → D_X0_run_38 (f + 1) b skip u (r : Nat) (st g n c I W p) = X := by
      intro X hh
      refine bdk (n0R0 h) (bdk (t5I TB34) ?_)
      rw [hN.1.1.2.2.2.2.2, if_neg (by omega)]
      by_cases q : u = 0
      · rw [if_pos q] at hh ⊢; exact hh
      · rw [if_neg q] at hh ⊢
        refine bdk (n0T h) (bdk (x0_hasClash h) ?_)
        by_cases q2 : I b 10 = -2
        · rw [if_pos q2] at hh ⊢; rw [if_pos rfl]; exact hh
        · rw [if_neg q2] at hh ⊢; rw [if_neg (by decide)]; exact hh
    have er : rndN T skip (d + 1) r N = rndN T skip d (r + 1) (if (r : Int) = skip then N else doL r (opsR T r) N) := rfl
    by_cases z : u = 1 ∧ I b 10 ≠ -2
    · refine ⟨I, W, _, head (X := some (Sum.inr (st g n c I W p))) ?_, Or.inr ⟨z.1, rfl, z.2, ?_⟩, Fr.rfl', fun _ _ => rfl⟩
      · rw [if_neg (by omega), if_neg z.2]
      · have e10 := hN.2.1.2.2.2.2.1
        rw [cs_rnd _ _ _ (by rw [← e10]; exact z.2), ← e10]
        exact z.2
    · have go : ∀ {X : Option (mS ⊕ mS)}, D_X0_run_62 (D_X0_run_38 f) b skip u (r : Int) (st g n c I W p) = X → D_X0_run_38 (f + 1) b skip u (r : Nat) (st g n c I W p) = X := by
        intro X hh
        refine head ?_
        by_cases q : u = 0
        · rw [if_pos q]; exact hh
        · rw [if_neg q]
          by_cases q2 : I b 10 = -2
          · rw [if_pos q2]; exact hh
          · exact absurd ⟨hu.resolve_left q, q2⟩ z
      by_cases q : (r : Int) = skip
      · obtain ⟨I', W', R, e, g1, g2, g3⟩ := ih (r + 1) f I W N (by omega) (by omega) hN
        refine ⟨I', W', R, go ?_, ?_, g2, g3⟩
        · unfold D_X0_run_62 D_X0_run_88
          rw [if_pos q, mw_n (by omega)]
          exact e
        · rw [er, if_pos q]; exact g1
      · obtain ⟨I1, W1, e1, g1, f1, w1, -⟩ := x0_apply (n := n) (c := c) (p := p) (g := g) (r := r) h hw (by omega) (hN.put13 (x := (r : Int)) hn h) (by rw [u2_def, if_pos ⟨rfl, rfl⟩])
        obtain ⟨I', W', R, e, g2, f2, w2⟩ := ih (r + 1) f I1 W1 _ (by omega) (by omega) g1
        refine ⟨I', W', R, go ?_, ?_, Fr.trans' (fun a k q => ?_) f2, fun x hx => by rw [w2 x hx, w1 x hx]⟩
        · unfold D_X0_run_62 D_X0_run_88
          rw [if_neg q]
          refine bdk (n0P h) (bdk (n0R0 h) (bdk (t5R10 TB34) (bdk (t5A5 TB34 (by omega) (by omega)) (bdk (n0T h) (bdk e1 ?_)))))
          rw [mw_n (by omega)]
          exact e
        · rw [er, if_neg q]; exact g2
        · rw [f1 a k (fun w => q (Or.inl w)), u2_def, if_neg (fun w => q (Or.inr w))]
theorem RNC.put8 {x : Int} (hn : WFn T) (h : NB b) (hN : RNC b T N I W) : RNC b T N (u2 I b 8 x) W := by
  obtain ⟨h1, ⟨a1, a2, a3, a4, a5, a6⟩, h3⟩ := hN
  refine ⟨h1.fr (P := fun a k => a = b ∧ k = 8) hn (fun a k q => by rw [u2_def, if_neg q]) (fun a k q => by rcases h with rfl | rfl <;> omega), ⟨a1, fun s hs => ?_, fun r hr => ?_, ?_, ?_, ?_⟩, h3⟩
  · rw [u2_def, if_neg (by omega), u2_def, if_neg (by omega), u2_def, if_neg (by omega)]; exact a2 s hs
  · rw [u2_def, if_neg (by omega)]; exact a3 r hr
  · rw [u2_def, if_neg (by omega)]; exact a4
  · rw [u2_def, if_neg (by omega)]; exact a5
  · rw [u2_def, if_neg (by omega)]; exact a6
theorem RNC.chz (hn : WFn T) (h : NB b) (hN : RNC b T N I W) : RNC b T (ch0 N) (u2 I b 14 0) W := by
  obtain ⟨h1, ⟨a1, a2, a3, a4, a5, a6⟩, v1, v2, v3, v4⟩ := hN
  have b0 := v1 0
  have ue : ∀ a k, ¬ (a = b ∧ k = 14) → u2 I b 14 0 a k = I a k := fun a k q => by rw [u2_def, if_neg q]
  refine ⟨h1.fr (P := fun a k => a = b ∧ k = 14) hn ue (fun a k q => by rcases h with rfl | rfl <;> omega), ⟨a1, fun s hs => ?_, fun r hr => ?_, ?_, ?_, ?_⟩, v1, Int.le_refl 0, ?_, v4⟩
  · rw [ue _ _ (by omega), ue _ _ (by omega), ue _ _ (by omega)]; exact a2 s hs
  · rw [ue _ _ (by omega)]; exact a3 r hr
  · rw [ue _ _ (by omega)]; exact a4
  · rw [ue _ _ (by omega)]; exact a5
  · rw [u2_def, if_pos ⟨rfl, rfl⟩]; rfl
  · have e9 : tot (nSa T) (ch0 N) = tot (nSa T) N := rfl
    show (0 : Int) + _ ≤ _
    rw [e9]
    omega
theorem u2_comm8 {x : Int} : u2 (u2 I b 8 x) b 14 0 = u2 (u2 I b 14 0) b 8 x := by
  funext a k
  simp only [u2_def]
  repeat' (first | omega | rfl | split)
theorem x0_11 {skip u : Int} (h : NB b) (hw : WF T) (hu : u = 0 ∨ u = 1) : ∀ (fl k f : Nat) (I : Nat → Nat → Int) (W : Nat → Nat → BitVec 64) (N : NS), k + fl = 12001 → fl < f → RNC b T (ch0 N) (u2 I b 14 0) W → I b 14 ≠ 0 → (fl = 0 → RNC b T N I W ∧ I b 8 = (k : Int)) →
    ∃ I' W' R, D_X0_run_11 f b skip u ((k + 1 : Nat) : Int) (st g n c I W p) = some R ∧ ((R = Sum.inl (st g n c I' W' p) ∧ RNC b T (runN T skip fl k N).1 I' W' ∧ I' b 8 = ((runN T skip fl k N).2 : Nat)) ∨ (u = 1 ∧ R = Sum.inr (st g n c I' W' p) ∧ I' b 10 ≠ -2 ∧ nCs (runN T skip fl k N).1 ≠ -2)) ∧ Fr (PR b) I I' ∧ (∀ x, ¬ PW b x → W' x = W x) := by
  have hn := hw.1
  have hn' := hn
  unfold WFn at hn'
  intro fl
  induction fl with
  | zero =>
    intro k f I W N hk hf hN hc h8
    obtain ⟨f, rfl⟩ : ∃ g, f = g + 1 := ⟨f - 1, by omega⟩
    exact ⟨I, W, _, if_pos (by omega), Or.inl ⟨rfl, (h8 rfl).1, (h8 rfl).2⟩, Fr.rfl', fun _ _ => rfl⟩
  | succ fl ih =>
    intro k f I W N hk hf hN hc h8
    obtain ⟨f, rfl⟩ : ∃ g, f = g + 1 := ⟨f - 1, by omega⟩
    have hN8 := hN.put8 (x := ((k + 1 : Nat) : Int)) hn h
    rw [← u2_comm8] at hN8
    obtain ⟨I1, W1, R1, e1, g1, f1, w1⟩ := x0_38 (n := n) (c := c) (p := p) (g := g) (skip := skip) (u := u) h hw hu (nRu T) 0 mFU _ W _ (by unfold nRu; omega) (by unfold nRu mFU; omega) hN8
    have e1' : D_X0_run_38 mFU b skip u 0 (st g n c (u2 (u2 I b 8 ((k + 1 : Nat) : Int)) b 14 0) W p) = some R1 := e1
    have fr1 : Fr (PR b) I I1 := fun a j q => by
      rw [f1 a j (fun w => q (by unfold PR; rcases w with w | w; exact Or.inl w; exact Or.inr ⟨w.1, Or.inr w.2⟩)), u2_def, if_neg (fun w => q (Or.inl (by unfold PC; omega))), u2_def, if_neg (fun w => q (Or.inr (by omega)))]
    have head : ∀ {X : Option (mS ⊕ mS)}, ((some R1).bind fun r4 => match r4 with | Sum.inl z5 => (D_X0_run_11 f) b skip u (mw (((k + 1 : Nat) : Int) + 1)) z5 | Sum.inr z6 => some (Sum.inr z6)) = X → D_X0_run_11 (f + 1) b skip u ((k + 1 : Nat) : Int) (st g n c I W p) = X := by
      intro X hh
      show (if (12001 : Int) < ((k + 1 : Nat) : Int) then _ else _) = _
      rw [if_neg (by omega)]
      refine bdk (n0I h) ?_
      rw [if_neg hc]
      refine bdk (n0P h) (bdk (n0B h (Or.inl rfl)) ?_)
      rw [e1']
      exact hh
    have headL : ∀ (z : mS) {X : Option (mS ⊕ mS)}, R1 = Sum.inl z → D_X0_run_11 f b skip u ((k + 1 + 1 : Nat) : Int) z = X → D_X0_run_11 (f + 1) b skip u ((k + 1 : Nat) : Int) (st g n c I W p) = X := by
      intro z X hR hh
      refine head ?_
      subst hR
      rw [Option.bind_some]
      show D_X0_run_11 f b skip u (mw (((k + 1 : Nat) : Int) + 1)) z = X
      rw [mw_n (by omega)]
      exact hh
    have headR : ∀ (z : mS), R1 = Sum.inr z → D_X0_run_11 (f + 1) b skip u ((k + 1 : Nat) : Int) (st g n c I W p) = some (Sum.inr z) := by
      intro z hR
      refine head ?_
      subst hR
      rfl
    have e2 : runN T skip (fl + 1) k N = if nCh (rndN T skip (nRu T) 0 (ch0 N)) = 0 then (rndN T skip (nRu T) 0 (ch0 N), k + 1) else runN T skip fl (k + 1) (rndN T skip (nRu T) 0 (ch0 N)) := rfl
    rcases g1 with ⟨rfl, N1⟩ | ⟨u1, rfl, c1, c2⟩
    · have h81 : I1 b 8 = ((k + 1 : Nat) : Int) := by
        rw [f1 b 8 (by unfold PC; omega), u2_def, if_neg (by omega), u2_def, if_pos ⟨rfl, rfl⟩]
      by_cases q : nCh (rndN T skip (nRu T) 0 (ch0 N)) = 0
      · rw [e2, if_pos q]
        obtain ⟨f2, rfl⟩ : ∃ g, f = g + 1 := ⟨f - 1, by omega⟩
        refine ⟨I1, W1, _, headL _ (X := some (Sum.inl (st g n c I1 W1 p))) rfl ?_, Or.inl ⟨rfl, N1, h81⟩, fr1, w1⟩
        show (if (12001 : Int) < ((k + 1 + 1 : Nat) : Int) then _ else _) = _
        split
        · rfl
        · refine bdk (n0I h) ?_
          rw [N1.2.1.2.2.2.2.2, if_pos q]
          exact if_pos rfl
      · rw [e2, if_neg q]
        obtain ⟨I2, W2, R2, e3, g2, f2, w2⟩ := ih (k + 1) f I1 W1 _ (by omega) (by omega) (N1.chz hn h) (by rw [N1.2.1.2.2.2.2.2, if_neg q]; decide) (fun _ => ⟨N1, h81⟩)
        exact ⟨I2, W2, R2, headL _ rfl e3, g2, Fr.trans' fr1 f2, fun x hx => by rw [w2 x hx, w1 x hx]⟩
    · refine ⟨I1, W1, _, headR _ rfl, Or.inr ⟨u1, rfl, c1, ?_⟩, fr1, w1⟩
      rw [e2]
      split
      · exact c2
      · rw [cs_run _ _ _ c2]; exact c2
/-! the start -/
theorem x0_s14 (h : NB b) (hw : WFn T) : ∀ (d r f : Nat) (I1 : Nat → Nat → Int), (r : Int) + d = T 2 → d < f → ClsT 34 T I1 → Fr (fun a _ => a = b + 30) I I1 → (∀ q, q < r → I1 (b + 30) q = 0) →
    ∃ I', D_X0_startFromFirst_14 f b (r : Nat) (st g n c I1 W p) = some (st g n c I' W p) ∧ Fr (fun a _ => a = b + 30) I I' ∧ (∀ q, q < nRu T → I' (b + 30) q = 0) ∧ ClsT 34 T I' := by
  have hw' := hw
  unfold WFn at hw'
  intro d
  induction d with
  | zero =>
    intro r f I1 hr hf hT h1 h2
    obtain ⟨f, rfl⟩ : ∃ g, f = g + 1 := ⟨f - 1, by omega⟩
    refine ⟨I1, bdk (n0R0 h) (bdk (t5I TB34) ?_), h1, fun q hq => h2 q (by unfold nRu at hq; omega), hT⟩
    rw [hT.1.2.2.2.2.2]
    exact if_pos (by omega)
  | succ d ih =>
    intro r f I1 hr hf hT h1 h2
    obtain ⟨f, rfl⟩ : ∃ g, f = g + 1 := ⟨f - 1, by omega⟩
    have ue : ∀ a k, ¬ (a = b + 30) → u2 I1 (b + 30) r 0 a k = I1 a k := fun a k q => by rw [u2_def, if_neg (fun w => q w.1)]
    obtain ⟨I', e, g1, g2⟩ := ih (r + 1) f (u2 I1 (b + 30) r 0) (by omega) (by omega) (hT.fr (P := fun a _ => a = b + 30) hw ue (fun a k q => by rcases h with rfl | rfl <;> omega)) (fun a k q => by rw [ue a k q]; exact h1 a k q) (fun z hz => by
      rw [u2_def]
      by_cases q : z = r
      · subst q; exact if_pos ⟨rfl, rfl⟩
      · rw [if_neg (fun w => q w.2)]; exact h2 z (by omega))
    refine ⟨I', bdk (n0R0 h) (bdk (t5I TB34) ?_), g1, g2⟩
    rw [hT.1.2.2.2.2.2, if_neg (by omega)]
    refine bdk (n0R7 h) (bdk (n0S30 h (by omega) (by omega)) ?_)
    rw [mw_n (by omega)]
    exact e
/-- as it stands behind some samples of the start -/
def StA (b : Nat) (T : Td) (F : Nat → Nat → Bool) (s : Nat) (I : Nat → Nat → Int) (W : Nat → Nat → BitVec 64) : Prop :=
  (∀ t, t < s → ∀ y, y < 1024 → wb (W (b + 15 + t)) y = (decide (y < 1000) && F t y)) ∧ (∀ t, t < s → I (b + 27) t = ((ct (F t) 1000 : Nat) : Int) ∧ LoP (F t) 1000 (I (b + 28) t) ∧ HiP (F t) 1000 (I (b + 29) t)) ∧ I b 9 = crA F s ∧ I b 10 = csA F s
def PS (b : Nat) (a k : Nat) : Prop := a = b + 27 ∨ a = b + 28 ∨ a = b + 29 ∨ (a = b ∧ (k = 9 ∨ k = 10))
theorem x0_s40 {F : Nat → Nat → Bool} (h : NB b) (hw : WFn T) : ∀ (d s f : Nat) (I : Nat → Nat → Int) (W : Nat → Nat → BitVec 64), (s : Int) + d = T 304 → d < f → ClsT 34 T I → FirstC b (nSa T) F W → StA b T F s I W →
    ∃ I' W', D_X0_startFromFirst_40 f b (s : Nat) (st g n c I W p) = some (st g n c I' W' p) ∧ StA b T F (nSa T) I' W' ∧ Fr (PS b) I I' ∧ (∀ x, ¬ (b + 15 ≤ x ∧ x < b + 27) → W' x = W x) ∧ ClsT 34 T I' := by
  have hw' := hw
  unfold WFn at hw'
  intro d
  induction d with
  | zero =>
    intro s f I W hs hf hT hF hA
    obtain ⟨f, rfl⟩ : ∃ g, f = g + 1 := ⟨f - 1, by omega⟩
    have e : s = nSa T := by unfold nSa; omega
    subst e
    refine ⟨I, W, bdk (n0R0 h) (bdk (t5I TB34) ?_), hA, Fr.rfl', fun _ _ => rfl, hT⟩
    rw [hT.1.2.2.2.1]
    exact if_pos (by unfold nSa; omega)
  | succ d ih =>
    intro s f I W hs hf hT hF hA
    obtain ⟨f, rfl⟩ : ∃ g, f = g + 1 := ⟨f - 1, by omega⟩
    have s12 : s < 12 := by omega
    have hm : nSa T ≤ 12 := by unfold nSa; omega
    have sm : s < nSa T := by unfold nSa; omega
    obtain ⟨a1, a2, a3, a4⟩ := hA
    generalize hWc : (fun r j => if r = b + 15 + s ∧ j < 16 then W (b + 2 + s) j else W r j) = Wc
    have wc1 : ∀ a, a ≠ b + 15 + s → Wc a = W a := fun a ha => by rw [← hWc]; funext j; exact if_neg (fun q => ha q.1)
    have wc2 : ∀ y, y < 1024 → wb (Wc (b + 15 + s)) y = (decide (y < 1000) && F s y) := fun y hy => by
      rw [← hF s sm y hy]
      refine wb_ext ?_
      rw [← hWc]
      exact if_pos ⟨rfl, by omega⟩
    obtain ⟨W1, lo, hi, e1, f1, f2, f3, f4⟩ := x0_keepOnly (n := n) (c := c) (I := I) (W := Wc) (p := p) (g := g) (k := b + 2 + s) (S := F s) (K := F s) h s12 (n0H2 h s12) (by omega) wc2 (fun y hy => by rw [wc1 _ (by omega), hF s sm y (by omega), decide_eq_true hy, Bool.true_and])
    have aa : (fun y => F s y && F s y) = F s := by funext y; exact Bool.and_self _
    rw [aa] at e1 f3 f4
    have f2' : ∀ y, y < 1024 → wb (W1 (b + 15 + s)) y = (decide (y < 1000) && F s y) := fun y hy => by
      rw [f2 y hy, Bool.and_self]
    generalize hI1 : u2 (u2 (u2 I (b + 27) s ((ct (F s) 1000 : Nat) : Int)) (b + 28) s lo) (b + 29) s hi = I1 at e1
    have rd : ∀ a k, ¬ (a = b + 27 ∧ k = s) → ¬ (a = b + 28 ∧ k = s) → ¬ (a = b + 29 ∧ k = s) → I1 a k = I a k := fun a k q1 q2 q3 => by rw [← hI1, u2_def, if_neg q3, u2_def, if_neg q2, u2_def, if_neg q1]
    have r27 : I1 (b + 27) s = ((ct (F s) 1000 : Nat) : Int) := by rw [← hI1, u2_def, if_neg (by omega), u2_def, if_neg (by omega), u2_def, if_pos ⟨rfl, rfl⟩]
    have r28 : I1 (b + 28) s = lo := by rw [← hI1, u2_def, if_neg (by omega), u2_def, if_pos ⟨rfl, rfl⟩]
    have r29 : I1 (b + 29) s = hi := by rw [← hI1, u2_def, if_pos ⟨rfl, rfl⟩]
    have w1 : ∀ a, a ≠ b + 15 + s → W1 a = W a := fun a ha => by rw [f1 a ha, wc1 a ha]
    have sp : ∀ t, t < s + 1 → ∀ y, y < 1024 → wb (W1 (b + 15 + t)) y = (decide (y < 1000) && F t y) := fun t ht y hy => by
      by_cases q : t = s
      · subst q; exact f2' y hy
      · rw [w1 _ (by omega)]; exact a1 t (by omega) y hy
    have szs : ∀ t, t < s + 1 → I1 (b + 27) t = ((ct (F t) 1000 : Nat) : Int) ∧ LoP (F t) 1000 (I1 (b + 28) t) ∧ HiP (F t) 1000 (I1 (b + 29) t) := fun t ht => by
      by_cases q : t = s
      · subst q; rw [r27, r28, r29]; exact ⟨rfl, f3, f4⟩
      · rw [rd _ _ (by omega) (by omega) (by omega), rd _ _ (by omega) (by omega) (by omega), rd _ _ (by omega) (by omega) (by omega)]
        exact a2 t (by omega)
    have fr1 : Fr (PS b) I I1 := fun a k q => rd a k (fun w => q (by unfold PS; omega)) (fun w => q (by unfold PS; omega)) (fun w => q (by unfold PS; omega))
    have PST : ∀ a k, PS b a k → a < 34 ∨ 34 + 74 ≤ a := fun a k q => by rcases h with rfl | rfl <;> unfold PS at q <;> omega
    have cs : csA F (s + 1) = if csA F s = -2 ∧ ct (F s) 1000 = 0 then (s : Int) else csA F s := rfl
    have cr := crA_s F s
    have i9 : I1 b 9 = crA F s := by rw [rd _ _ (by omega) (by omega) (by omega)]; exact a3
    have i10 : I1 b 10 = csA F s := by rw [rd _ _ (by omega) (by omega) (by omega)]; exact a4
    have head : ∀ {X : Option mS}, (if ((ct (F s) 1000 : Nat) : Int) ≠ 0 then D_X0_startFromFirst_107 (D_X0_startFromFirst_40 f) b (s : Int) (st g n c I1 W1 p) else
        (tgO (st g n c I1 W1 p) b 0).bind fun _ => (D_X0_hasClash b (st g n c I1 W1 p)).bind fun r13 => if r13 ≠ 0 then D_X0_startFromFirst_107 (D_X0_startFromFirst_40 f) b (s : Int) (st g n c I1 W1 p) else
        (pI (st g n c I1 W1 p) b 0 9 (-1)).bind fun s14 => (pI s14 b 0 10 (s : Int)).bind fun s15 => D_X0_startFromFirst_107 (D_X0_startFromFirst_40 f) b (s : Int) s15) = X → D_X0_startFromFirst_40 (f + 1) b (s : Nat) (st g n c I W p) = X := by
      intro X hh
      refine bdk (n0R0 h) (bdk (t5I TB34) ?_)
      rw [hT.1.2.2.2.1, if_neg (by omega)]
      refine bdk (n0R2 h) (bdk (n0A1 h (by omega) (by omega)) (bdk (n0R3 h) (bdk (n0A14 h (by omega) (by omega)) (bdk (s_cpL (n0H2 h s12) (n0H15 h s12) (by decide) (by decide) (by decide)) (bdk (n0R2 h) (bdk (n0A1 h (by omega) (by omega)) (bdk (n0T h) ?_)))))))
      have eW : (fun r j => if r = b + 15 + s ∧ j < (16 : Int).toNat then W (b + 2 + s) j else W r j) = Wc := hWc
      show (D_X0_keepOnly b (s : Int) (b + 2 + s) (st g n c I (fun r j => if r = b + 15 + s ∧ j < (16 : Int).toNat then W (b + 2 + s) j else W r j) p)).bind _ = _
      rw [eW]
      refine bdk e1 (bdk (n0R4 h) (bdk (n0L27 h (by omega) (by omega)) ?_))
      rw [toN, r27]
      exact hh
    by_cases q : csA F s = -2 ∧ ct (F s) 1000 = 0
    · rw [if_pos q] at cs cr
      have ue : ∀ a k, ¬ (a = b ∧ (k = 9 ∨ k = 10)) → u2 (u2 I1 b 9 (-1)) b 10 (s : Int) a k = I1 a k := fun a k w => by rw [u2_def, if_neg (by omega), u2_def, if_neg (by omega)]
      have fr2 : Fr (PS b) I (u2 (u2 I1 b 9 (-1)) b 10 (s : Int)) := fun a k w => by rw [ue a k (fun v => w (by unfold PS; omega))]; exact fr1 a k w
      obtain ⟨I', W', e, g1, g2, g3, g4⟩ := ih (s + 1) f (u2 (u2 I1 b 9 (-1)) b 10 (s : Int)) W1 (by omega) (by omega) (hT.fr hw fr2 PST) (fun t ht y hy => by rw [w1 _ (by omega)]; exact hF t ht y hy) ⟨sp, fun t ht => by rw [ue _ _ (by omega), ue _ _ (by omega), ue _ _ (by omega)]; exact szs t ht, by rw [u2_def, if_neg (by omega), u2_def, if_pos ⟨rfl, rfl⟩, cr], by rw [u2_def, if_pos ⟨rfl, rfl⟩, cs]⟩
      refine ⟨I', W', head ?_, g1, Fr.trans' fr2 g2, fun x hx => by rw [g3 x hx, w1 x (by omega)], g4⟩
      rw [if_neg (by omega)]
      refine bdk (n0T h) (bdk (x0_hasClash h) ?_)
      rw [i10, if_pos q.1, if_neg (by decide)]
      refine bdk (n0P h) (bdk (n0P h) ?_)
      unfold D_X0_startFromFirst_107
      rw [mw_n (by omega)]
      exact e
    · rw [if_neg q] at cs cr
      obtain ⟨I', W', e, g1, g2, g3, g4⟩ := ih (s + 1) f I1 W1 (by omega) (by omega) (hT.fr hw fr1 PST) (fun t ht y hy => by rw [w1 _ (by omega)]; exact hF t ht y hy) ⟨sp, szs, by rw [i9, cr], by rw [i10, cs]⟩
      refine ⟨I', W', head ?_, g1, Fr.trans' fr1 g2, fun x hx => by rw [g3 x hx, w1 x (by omega)], g4⟩
      have go : D_X0_startFromFirst_107 (D_X0_startFromFirst_40 f) b (s : Int) (st g n c I1 W1 p) = some (st g n c I' W' p) := by
        unfold D_X0_startFromFirst_107
        rw [mw_n (by omega)]
        exact e
      by_cases z : ct (F s) 1000 = 0
      · rw [if_neg (by omega)]
        refine bdk (n0T h) (bdk (x0_hasClash h) ?_)
        rw [i10, if_neg (fun w => q ⟨w, z⟩), if_pos (by decide)]
        exact go
      · rw [if_pos (by omega)]
        exact go
theorem x0_run {F : Nat → Nat → Bool} {skip u : Int} (h : NB b) (hw : WF T) (hu : u = 0 ∨ u = 1) (hT : ClsT 34 T I) (hF : FirstC b (nSa T) F W) :
    ∃ I' W', D_X0_run b skip u (st g n c I W p) = some (st g n c I' W' p) ∧ ((RNC b T (runS T skip F).1 I' W' ∧ I' b 8 = ((runS T skip F).2 : Nat)) ∨ (u = 1 ∧ I' b 10 ≠ -2 ∧ nCs (runS T skip F).1 ≠ -2)) ∧ Fr (PR b) I I' ∧ (∀ x, ¬ PW b x → W' x = W x) ∧ ClsT 34 T I' := by
  have hn := hw.1
  have hn' := hn
  unfold WFn at hn'
  have u0 : ∀ a k, ¬ (a = b ∧ (k = 9 ∨ k = 10)) → u2 (u2 I b 9 (-2)) b 10 (-2) a k = I a k := fun a k q => by rw [u2_def, if_neg (by omega), u2_def, if_neg (by omega)]
  obtain ⟨I1, e1, f1, z1, t1⟩ := x0_s14 (n := n) (c := c) (I := u2 (u2 I b 9 (-2)) b 10 (-2)) (W := W) (p := p) (g := g) (T := T) h hn (nRu T) 0 mFU _ (by unfold nRu; omega) (by unfold nRu mFU; omega) (hT.fr (P := fun a k => a = b ∧ (k = 9 ∨ k = 10)) hn u0 (fun a k q => by rcases h with rfl | rfl <;> omega)) Fr.rfl' (fun q hq => by omega)
  obtain ⟨I2, W2, e2, a2, f2, w2, t2⟩ := x0_s40 (n := n) (c := c) (p := p) (g := g) (F := F) h hn (nSa T) 0 mFU I1 W (by unfold nSa; omega) (by unfold nSa mFU; omega) t1 hF ⟨fun t ht => by omega, fun t ht => by omega, by rw [f1 _ _ (by omega), u2_def, if_neg (by omega), u2_def, if_pos ⟨rfl, rfl⟩]; rfl, by rw [f1 _ _ (by omega), u2_def, if_pos ⟨rfl, rfl⟩]; rfl⟩
  obtain ⟨b1, b2, b3, b4⟩ := a2
  have u3 : ∀ a k, ¬ (a = b ∧ k = 14) → u2 I2 b 14 1 a k = I2 a k := fun a k q => by rw [u2_def, if_neg q]
  have tr := totN_le (nSa T) F (nSa T)
  have hm : nSa T ≤ 12 := by unfold nSa; omega
  have N3 : RNC b T (ch0 (startN T F)) (u2 (u2 I2 b 14 1) b 14 0) W2 := by
    have u4 : ∀ a k, ¬ (a = b ∧ k = 14) → u2 (u2 I2 b 14 1) b 14 0 a k = I2 a k := fun a k q => by rw [u2_def, if_neg q, u2_def, if_neg q]
    have e9 : tot (nSa T) (ch0 (startN T F)) = totN (nSa T) F (nSa T) := rfl
    refine ⟨t2.fr (P := fun a k => a = b ∧ k = 14) hn u4 (fun a k q => by rcases h with rfl | rfl <;> omega), ⟨b1, fun s hs => ?_, fun r hr => ?_, ?_, ?_, ?_⟩, fun r => ?_, Int.le_refl 0, ?_, csA_rng _ _⟩
    · rw [u4 _ _ (by omega), u4 _ _ (by omega), u4 _ _ (by omega)]; exact b2 s hs
    · rw [u4 _ _ (by omega), f2 _ _ (by unfold PS; omega)]; exact z1 r hr
    · rw [u4 _ _ (by omega)]; exact b3
    · rw [u4 _ _ (by omega)]; exact b4
    · rw [u2_def, if_pos ⟨rfl, rfl⟩]; rfl
    · show (0 : Int) ≤ 0 ∧ (0 : Int) + _ ≤ _
      rw [e9]
      omega
    · show (0 : Int) + _ ≤ _
      rw [e9]
      omega
  obtain ⟨I4, W4, R4, e4, g4, f4, w4⟩ := x0_11 (n := n) (c := c) (p := p) (g := g) (skip := skip) (u := u) h hw hu 12001 0 mFU (u2 I2 b 14 1) W2 (startN T F) rfl (by decide) N3 (by rw [u2_def, if_pos ⟨rfl, rfl⟩]; decide) (fun q => by omega)
  have fr : Fr (PR b) I I4 := fun a k q => by
    rw [f4 a k q, u3 a k (fun w => q (by unfold PR PC; omega)), f2 a k (fun w => q (by unfold PS at w; unfold PR PC; omega)), f1 a k (fun w => q (by unfold PR PC; omega)), u0 a k (fun w => q (by unfold PR PC; omega))]
  have wr : ∀ x, ¬ PW b x → W4 x = W x := fun x hx => by rw [w4 x hx, w2 x (fun w => hx (Or.inl w))]
  have tl : ClsT 34 T I4 := hT.fr hn fr (PR_T h)
  have head : ∀ (z : mS), R4 = Sum.inl z ∨ R4 = Sum.inr z → D_X0_run b skip u (st g n c I W p) = some z := by
    intro z hz
    unfold D_X0_run D_X0_startFromFirst
    refine bdk (n0T h) (bdk (bdk (n0P h) (bdk (n0P h) (bdk e1 (bdk e2 rfl)))) (bdk (n0B h (Or.inr rfl)) ?_))
    have e4' : D_X0_run_11 mFU b skip u 1 (st g n c (u2 I2 b 14 1) W2 p) = some R4 := e4
    rw [e4']
    rcases hz with rfl | rfl <;> rfl
  rcases g4 with ⟨rfl, N4, h8⟩ | ⟨u1, rfl, c1, c2⟩
  · exact ⟨I4, W4, head _ (Or.inl rfl), Or.inl ⟨N4, h8⟩, fr, wr, tl⟩
  · exact ⟨I4, W4, head _ (Or.inr rfl), Or.inr ⟨u1, c1, c2⟩, fr, wr, tl⟩
end CR
