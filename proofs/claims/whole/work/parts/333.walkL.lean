def D_L_law_1914 (rec : Nat → Nat → Nat → Nat → Int → mS → Option (mS ⊕ (Int × mS))) (x0 : Nat) (x1 : Nat) (x2 : Nat) (x3 : Nat) (x4 : Int) (σ : mS) : Option (mS ⊕ (Int × mS)) :=
  rec x0 x1 x2 x3 (mw (x4 + 6)) σ
set_option maxRecDepth 100000 in
set_option maxHeartbeats 4000000 in
theorem lk_L_law_1914 {G : mG} {rec : Nat → Nat → Nat → Nat → Int → mS → Option (mS ⊕ (Int × mS))} {x0 : Nat} {x1 : Nat} {x2 : Nat} {x3 : Nat} {x4 : Int} {σ : mS} {R : (mS ⊕ (Int × mS))} {r : mX} {τ : mS} (hnc : ∀ q ∈ mNcs, va_Nc q.1 q.2 G.1) (hD : D_L_law_1914 rec x0 x1 x2 x3 x4 σ = some R) (hrec : ∀ {x0 : Nat} {x1 : Nat} {x2 : Nat} {x3 : Nat} {x4 : Int} {σ : mS} {R : (mS ⊕ (Int × mS))}, rec x0 x1 x2 x3 x4 σ = some R → ∀ {r : mX} {τ : mS}, (∀ z, R = (Sum.inl z) → Ev G M_L_law 1920 [] [] z r τ) ∧ (∀ z, R = (Sum.inr z) → r = .inl (some (vi z.1)) ∧ τ = z.2) → Ev G M_L_law 23 [(0, vr x0), (1, vr x1), (2, vr x2), (3, vr x3), (4, vi x4)] [] σ r τ) (hk : (∀ z, R = (Sum.inl z) → Ev G M_L_law 1920 [] [] z r τ) ∧ (∀ z, R = (Sum.inr z) → r = .inl (some (vi z.1)) ∧ τ = z.2)) : Ev G M_L_law 1914 [(0, vr x0), (1, vr x1), (2, vr x2), (3, vr x3), (4, vi x4)] [] σ r τ := by
  unfold D_L_law_1914 at hD
  refine ev_iinc dL_law_1914 4 rfl (Nat.le_of_ble_eq_true rfl) rfl ?_
  refine ev_goto (tgt := 23) dL_law_1917 (by decide) ?_
  refine Ev.pick [1, 2, 3, 4, 0] rfl ?_
  exact hrec hD hk
def D_L_law_310 (rec : Nat → Nat → Nat → Nat → Int → mS → Option (mS ⊕ (Int × mS))) (x0 : Nat) (x1 : Nat) (x2 : Nat) (x3 : Nat) (x4 : Int) (σ : mS) : Option (mS ⊕ (Int × mS)) :=
  D_L_law_1914 rec x0 x1 x2 x3 x4 σ
set_option maxRecDepth 100000 in
set_option maxHeartbeats 4000000 in
theorem lk_L_law_310 {G : mG} {rec : Nat → Nat → Nat → Nat → Int → mS → Option (mS ⊕ (Int × mS))} {x0 : Nat} {x1 : Nat} {x2 : Nat} {x3 : Nat} {x4 : Int} {σ : mS} {R : (mS ⊕ (Int × mS))} {r : mX} {τ : mS} (hnc : ∀ q ∈ mNcs, va_Nc q.1 q.2 G.1) (hD : D_L_law_310 rec x0 x1 x2 x3 x4 σ = some R) (hrec : ∀ {x0 : Nat} {x1 : Nat} {x2 : Nat} {x3 : Nat} {x4 : Int} {σ : mS} {R : (mS ⊕ (Int × mS))}, rec x0 x1 x2 x3 x4 σ = some R → ∀ {r : mX} {τ : mS}, (∀ z, R = (Sum.inl z) → Ev G M_L_law 1920 [] [] z r τ) ∧ (∀ z, R = (Sum.inr z) → r = .inl (some (vi z.1)) ∧ τ = z.2) → Ev G M_L_law 23 [(0, vr x0), (1, vr x1), (2, vr x2), (3, vr x3), (4, vi x4)] [] σ r τ) (hk : (∀ z, R = (Sum.inl z) → Ev G M_L_law 1920 [] [] z r τ) ∧ (∀ z, R = (Sum.inr z) → r = .inl (some (vi z.1)) ∧ τ = z.2)) : Ev G M_L_law 310 [(0, vr x0), (1, vr x1), (2, vr x2), (3, vr x3), (4, vi x4)] [] σ r τ := by
  unfold D_L_law_310 at hD
  refine ev_goto (tgt := 1914) dL_law_310 (by decide) ?_
  exact lk_L_law_1914 hnc hD hrec hk
def D_L_law_391 (rec : Nat → Nat → Nat → Nat → Int → mS → Option (mS ⊕ (Int × mS))) (x0 : Nat) (x1 : Nat) (x2 : Nat) (x3 : Nat) (x4 : Int) (σ : mS) : Option (mS ⊕ (Int × mS)) :=
  D_L_law_1914 rec x0 x1 x2 x3 x4 σ
set_option maxRecDepth 100000 in
set_option maxHeartbeats 4000000 in
theorem lk_L_law_391 {G : mG} {rec : Nat → Nat → Nat → Nat → Int → mS → Option (mS ⊕ (Int × mS))} {x0 : Nat} {x1 : Nat} {x2 : Nat} {x3 : Nat} {x4 : Int} {σ : mS} {R : (mS ⊕ (Int × mS))} {r : mX} {τ : mS} (hnc : ∀ q ∈ mNcs, va_Nc q.1 q.2 G.1) (hD : D_L_law_391 rec x0 x1 x2 x3 x4 σ = some R) (hrec : ∀ {x0 : Nat} {x1 : Nat} {x2 : Nat} {x3 : Nat} {x4 : Int} {σ : mS} {R : (mS ⊕ (Int × mS))}, rec x0 x1 x2 x3 x4 σ = some R → ∀ {r : mX} {τ : mS}, (∀ z, R = (Sum.inl z) → Ev G M_L_law 1920 [] [] z r τ) ∧ (∀ z, R = (Sum.inr z) → r = .inl (some (vi z.1)) ∧ τ = z.2) → Ev G M_L_law 23 [(0, vr x0), (1, vr x1), (2, vr x2), (3, vr x3), (4, vi x4)] [] σ r τ) (hk : (∀ z, R = (Sum.inl z) → Ev G M_L_law 1920 [] [] z r τ) ∧ (∀ z, R = (Sum.inr z) → r = .inl (some (vi z.1)) ∧ τ = z.2)) : Ev G M_L_law 391 [(0, vr x0), (1, vr x1), (2, vr x2), (3, vr x3), (4, vi x4)] [] σ r τ := by
  unfold D_L_law_391 at hD
  refine ev_goto (tgt := 1914) dL_law_391 (by decide) ?_
  exact lk_L_law_1914 hnc hD hrec hk
def D_L_law_471 (rec : Nat → Nat → Nat → Nat → Int → mS → Option (mS ⊕ (Int × mS))) (x0 : Nat) (x1 : Nat) (x2 : Nat) (x3 : Nat) (x4 : Int) (σ : mS) : Option (mS ⊕ (Int × mS)) :=
  D_L_law_1914 rec x0 x1 x2 x3 x4 σ
set_option maxRecDepth 100000 in
set_option maxHeartbeats 4000000 in
theorem lk_L_law_471 {G : mG} {rec : Nat → Nat → Nat → Nat → Int → mS → Option (mS ⊕ (Int × mS))} {x0 : Nat} {x1 : Nat} {x2 : Nat} {x3 : Nat} {x4 : Int} {σ : mS} {R : (mS ⊕ (Int × mS))} {r : mX} {τ : mS} (hnc : ∀ q ∈ mNcs, va_Nc q.1 q.2 G.1) (hD : D_L_law_471 rec x0 x1 x2 x3 x4 σ = some R) (hrec : ∀ {x0 : Nat} {x1 : Nat} {x2 : Nat} {x3 : Nat} {x4 : Int} {σ : mS} {R : (mS ⊕ (Int × mS))}, rec x0 x1 x2 x3 x4 σ = some R → ∀ {r : mX} {τ : mS}, (∀ z, R = (Sum.inl z) → Ev G M_L_law 1920 [] [] z r τ) ∧ (∀ z, R = (Sum.inr z) → r = .inl (some (vi z.1)) ∧ τ = z.2) → Ev G M_L_law 23 [(0, vr x0), (1, vr x1), (2, vr x2), (3, vr x3), (4, vi x4)] [] σ r τ) (hk : (∀ z, R = (Sum.inl z) → Ev G M_L_law 1920 [] [] z r τ) ∧ (∀ z, R = (Sum.inr z) → r = .inl (some (vi z.1)) ∧ τ = z.2)) : Ev G M_L_law 471 [(0, vr x0), (1, vr x1), (2, vr x2), (3, vr x3), (4, vi x4)] [] σ r τ := by
  unfold D_L_law_471 at hD
  refine ev_goto (tgt := 1914) dL_law_471 (by decide) ?_
  exact lk_L_law_1914 hnc hD hrec hk
def D_L_law_563 (rec : Nat → Nat → Nat → Nat → Int → mS → Option (mS ⊕ (Int × mS))) (x0 : Nat) (x1 : Nat) (x2 : Nat) (x3 : Nat) (x4 : Int) (σ : mS) : Option (mS ⊕ (Int × mS)) :=
  D_L_law_1914 rec x0 x1 x2 x3 x4 σ
set_option maxRecDepth 100000 in
set_option maxHeartbeats 4000000 in
theorem lk_L_law_563 {G : mG} {rec : Nat → Nat → Nat → Nat → Int → mS → Option (mS ⊕ (Int × mS))} {x0 : Nat} {x1 : Nat} {x2 : Nat} {x3 : Nat} {x4 : Int} {σ : mS} {R : (mS ⊕ (Int × mS))} {r : mX} {τ : mS} (hnc : ∀ q ∈ mNcs, va_Nc q.1 q.2 G.1) (hD : D_L_law_563 rec x0 x1 x2 x3 x4 σ = some R) (hrec : ∀ {x0 : Nat} {x1 : Nat} {x2 : Nat} {x3 : Nat} {x4 : Int} {σ : mS} {R : (mS ⊕ (Int × mS))}, rec x0 x1 x2 x3 x4 σ = some R → ∀ {r : mX} {τ : mS}, (∀ z, R = (Sum.inl z) → Ev G M_L_law 1920 [] [] z r τ) ∧ (∀ z, R = (Sum.inr z) → r = .inl (some (vi z.1)) ∧ τ = z.2) → Ev G M_L_law 23 [(0, vr x0), (1, vr x1), (2, vr x2), (3, vr x3), (4, vi x4)] [] σ r τ) (hk : (∀ z, R = (Sum.inl z) → Ev G M_L_law 1920 [] [] z r τ) ∧ (∀ z, R = (Sum.inr z) → r = .inl (some (vi z.1)) ∧ τ = z.2)) : Ev G M_L_law 563 [(0, vr x0), (1, vr x1), (2, vr x2), (3, vr x3), (4, vi x4)] [] σ r τ := by
  unfold D_L_law_563 at hD
  refine ev_goto (tgt := 1914) dL_law_563 (by decide) ?_
  exact lk_L_law_1914 hnc hD hrec hk
def D_L_law_643 (rec : Nat → Nat → Nat → Nat → Int → mS → Option (mS ⊕ (Int × mS))) (x0 : Nat) (x1 : Nat) (x2 : Nat) (x3 : Nat) (x4 : Int) (σ : mS) : Option (mS ⊕ (Int × mS)) :=
  D_L_law_1914 rec x0 x1 x2 x3 x4 σ
set_option maxRecDepth 100000 in
set_option maxHeartbeats 4000000 in
theorem lk_L_law_643 {G : mG} {rec : Nat → Nat → Nat → Nat → Int → mS → Option (mS ⊕ (Int × mS))} {x0 : Nat} {x1 : Nat} {x2 : Nat} {x3 : Nat} {x4 : Int} {σ : mS} {R : (mS ⊕ (Int × mS))} {r : mX} {τ : mS} (hnc : ∀ q ∈ mNcs, va_Nc q.1 q.2 G.1) (hD : D_L_law_643 rec x0 x1 x2 x3 x4 σ = some R) (hrec : ∀ {x0 : Nat} {x1 : Nat} {x2 : Nat} {x3 : Nat} {x4 : Int} {σ : mS} {R : (mS ⊕ (Int × mS))}, rec x0 x1 x2 x3 x4 σ = some R → ∀ {r : mX} {τ : mS}, (∀ z, R = (Sum.inl z) → Ev G M_L_law 1920 [] [] z r τ) ∧ (∀ z, R = (Sum.inr z) → r = .inl (some (vi z.1)) ∧ τ = z.2) → Ev G M_L_law 23 [(0, vr x0), (1, vr x1), (2, vr x2), (3, vr x3), (4, vi x4)] [] σ r τ) (hk : (∀ z, R = (Sum.inl z) → Ev G M_L_law 1920 [] [] z r τ) ∧ (∀ z, R = (Sum.inr z) → r = .inl (some (vi z.1)) ∧ τ = z.2)) : Ev G M_L_law 643 [(0, vr x0), (1, vr x1), (2, vr x2), (3, vr x3), (4, vi x4)] [] σ r τ := by
  unfold D_L_law_643 at hD
  refine ev_goto (tgt := 1914) dL_law_643 (by decide) ?_
  exact lk_L_law_1914 hnc hD hrec hk
def D_L_law_699 (rec : Nat → Nat → Nat → Nat → Int → mS → Option (mS ⊕ (Int × mS))) (x0 : Nat) (x1 : Nat) (x2 : Nat) (x3 : Nat) (x4 : Int) (σ : mS) : Option (mS ⊕ (Int × mS)) :=
  D_L_law_1914 rec x0 x1 x2 x3 x4 σ
set_option maxRecDepth 100000 in
set_option maxHeartbeats 4000000 in
theorem lk_L_law_699 {G : mG} {rec : Nat → Nat → Nat → Nat → Int → mS → Option (mS ⊕ (Int × mS))} {x0 : Nat} {x1 : Nat} {x2 : Nat} {x3 : Nat} {x4 : Int} {σ : mS} {R : (mS ⊕ (Int × mS))} {r : mX} {τ : mS} (hnc : ∀ q ∈ mNcs, va_Nc q.1 q.2 G.1) (hD : D_L_law_699 rec x0 x1 x2 x3 x4 σ = some R) (hrec : ∀ {x0 : Nat} {x1 : Nat} {x2 : Nat} {x3 : Nat} {x4 : Int} {σ : mS} {R : (mS ⊕ (Int × mS))}, rec x0 x1 x2 x3 x4 σ = some R → ∀ {r : mX} {τ : mS}, (∀ z, R = (Sum.inl z) → Ev G M_L_law 1920 [] [] z r τ) ∧ (∀ z, R = (Sum.inr z) → r = .inl (some (vi z.1)) ∧ τ = z.2) → Ev G M_L_law 23 [(0, vr x0), (1, vr x1), (2, vr x2), (3, vr x3), (4, vi x4)] [] σ r τ) (hk : (∀ z, R = (Sum.inl z) → Ev G M_L_law 1920 [] [] z r τ) ∧ (∀ z, R = (Sum.inr z) → r = .inl (some (vi z.1)) ∧ τ = z.2)) : Ev G M_L_law 699 [(0, vr x0), (1, vr x1), (2, vr x2), (3, vr x3), (4, vi x4)] [] σ r τ := by
  unfold D_L_law_699 at hD
  refine ev_goto (tgt := 1914) dL_law_699 (by decide) ?_
  exact lk_L_law_1914 hnc hD hrec hk
def D_L_law_768 (rec : Nat → Nat → Nat → Nat → Int → mS → Option (mS ⊕ (Int × mS))) (x0 : Nat) (x1 : Nat) (x2 : Nat) (x3 : Nat) (x4 : Int) (σ : mS) : Option (mS ⊕ (Int × mS)) :=
  D_L_law_1914 rec x0 x1 x2 x3 x4 σ
set_option maxRecDepth 100000 in
set_option maxHeartbeats 4000000 in
theorem lk_L_law_768 {G : mG} {rec : Nat → Nat → Nat → Nat → Int → mS → Option (mS ⊕ (Int × mS))} {x0 : Nat} {x1 : Nat} {x2 : Nat} {x3 : Nat} {x4 : Int} {σ : mS} {R : (mS ⊕ (Int × mS))} {r : mX} {τ : mS} (hnc : ∀ q ∈ mNcs, va_Nc q.1 q.2 G.1) (hD : D_L_law_768 rec x0 x1 x2 x3 x4 σ = some R) (hrec : ∀ {x0 : Nat} {x1 : Nat} {x2 : Nat} {x3 : Nat} {x4 : Int} {σ : mS} {R : (mS ⊕ (Int × mS))}, rec x0 x1 x2 x3 x4 σ = some R → ∀ {r : mX} {τ : mS}, (∀ z, R = (Sum.inl z) → Ev G M_L_law 1920 [] [] z r τ) ∧ (∀ z, R = (Sum.inr z) → r = .inl (some (vi z.1)) ∧ τ = z.2) → Ev G M_L_law 23 [(0, vr x0), (1, vr x1), (2, vr x2), (3, vr x3), (4, vi x4)] [] σ r τ) (hk : (∀ z, R = (Sum.inl z) → Ev G M_L_law 1920 [] [] z r τ) ∧ (∀ z, R = (Sum.inr z) → r = .inl (some (vi z.1)) ∧ τ = z.2)) : Ev G M_L_law 768 [(0, vr x0), (1, vr x1), (2, vr x2), (3, vr x3), (4, vi x4)] [] σ r τ := by
  unfold D_L_law_768 at hD
  refine ev_goto (tgt := 1914) dL_law_768 (by decide) ?_
  exact lk_L_law_1914 hnc hD hrec hk
def D_L_law_824 (rec : Nat → Nat → Nat → Nat → Int → mS → Option (mS ⊕ (Int × mS))) (x0 : Nat) (x1 : Nat) (x2 : Nat) (x3 : Nat) (x4 : Int) (σ : mS) : Option (mS ⊕ (Int × mS)) :=
  D_L_law_1914 rec x0 x1 x2 x3 x4 σ
set_option maxRecDepth 100000 in
set_option maxHeartbeats 4000000 in
theorem lk_L_law_824 {G : mG} {rec : Nat → Nat → Nat → Nat → Int → mS → Option (mS ⊕ (Int × mS))} {x0 : Nat} {x1 : Nat} {x2 : Nat} {x3 : Nat} {x4 : Int} {σ : mS} {R : (mS ⊕ (Int × mS))} {r : mX} {τ : mS} (hnc : ∀ q ∈ mNcs, va_Nc q.1 q.2 G.1) (hD : D_L_law_824 rec x0 x1 x2 x3 x4 σ = some R) (hrec : ∀ {x0 : Nat} {x1 : Nat} {x2 : Nat} {x3 : Nat} {x4 : Int} {σ : mS} {R : (mS ⊕ (Int × mS))}, rec x0 x1 x2 x3 x4 σ = some R → ∀ {r : mX} {τ : mS}, (∀ z, R = (Sum.inl z) → Ev G M_L_law 1920 [] [] z r τ) ∧ (∀ z, R = (Sum.inr z) → r = .inl (some (vi z.1)) ∧ τ = z.2) → Ev G M_L_law 23 [(0, vr x0), (1, vr x1), (2, vr x2), (3, vr x3), (4, vi x4)] [] σ r τ) (hk : (∀ z, R = (Sum.inl z) → Ev G M_L_law 1920 [] [] z r τ) ∧ (∀ z, R = (Sum.inr z) → r = .inl (some (vi z.1)) ∧ τ = z.2)) : Ev G M_L_law 824 [(0, vr x0), (1, vr x1), (2, vr x2), (3, vr x3), (4, vi x4)] [] σ r τ := by
  unfold D_L_law_824 at hD
  refine ev_goto (tgt := 1914) dL_law_824 (by decide) ?_
  exact lk_L_law_1914 hnc hD hrec hk
def D_L_law_892 (rec : Nat → Nat → Nat → Nat → Int → mS → Option (mS ⊕ (Int × mS))) (x0 : Nat) (x1 : Nat) (x2 : Nat) (x3 : Nat) (x4 : Int) (σ : mS) : Option (mS ⊕ (Int × mS)) :=
  D_L_law_1914 rec x0 x1 x2 x3 x4 σ
set_option maxRecDepth 100000 in
set_option maxHeartbeats 4000000 in
theorem lk_L_law_892 {G : mG} {rec : Nat → Nat → Nat → Nat → Int → mS → Option (mS ⊕ (Int × mS))} {x0 : Nat} {x1 : Nat} {x2 : Nat} {x3 : Nat} {x4 : Int} {σ : mS} {R : (mS ⊕ (Int × mS))} {r : mX} {τ : mS} (hnc : ∀ q ∈ mNcs, va_Nc q.1 q.2 G.1) (hD : D_L_law_892 rec x0 x1 x2 x3 x4 σ = some R) (hrec : ∀ {x0 : Nat} {x1 : Nat} {x2 : Nat} {x3 : Nat} {x4 : Int} {σ : mS} {R : (mS ⊕ (Int × mS))}, rec x0 x1 x2 x3 x4 σ = some R → ∀ {r : mX} {τ : mS}, (∀ z, R = (Sum.inl z) → Ev G M_L_law 1920 [] [] z r τ) ∧ (∀ z, R = (Sum.inr z) → r = .inl (some (vi z.1)) ∧ τ = z.2) → Ev G M_L_law 23 [(0, vr x0), (1, vr x1), (2, vr x2), (3, vr x3), (4, vi x4)] [] σ r τ) (hk : (∀ z, R = (Sum.inl z) → Ev G M_L_law 1920 [] [] z r τ) ∧ (∀ z, R = (Sum.inr z) → r = .inl (some (vi z.1)) ∧ τ = z.2)) : Ev G M_L_law 892 [(0, vr x0), (1, vr x1), (2, vr x2), (3, vr x3), (4, vi x4)] [] σ r τ := by
  unfold D_L_law_892 at hD
  refine ev_goto (tgt := 1914) dL_law_892 (by decide) ?_
  exact lk_L_law_1914 hnc hD hrec hk
def D_L_law_960 (rec : Nat → Nat → Nat → Nat → Int → mS → Option (mS ⊕ (Int × mS))) (x0 : Nat) (x1 : Nat) (x2 : Nat) (x3 : Nat) (x4 : Int) (σ : mS) : Option (mS ⊕ (Int × mS)) :=
  D_L_law_1914 rec x0 x1 x2 x3 x4 σ
set_option maxRecDepth 100000 in
set_option maxHeartbeats 4000000 in
theorem lk_L_law_960 {G : mG} {rec : Nat → Nat → Nat → Nat → Int → mS → Option (mS ⊕ (Int × mS))} {x0 : Nat} {x1 : Nat} {x2 : Nat} {x3 : Nat} {x4 : Int} {σ : mS} {R : (mS ⊕ (Int × mS))} {r : mX} {τ : mS} (hnc : ∀ q ∈ mNcs, va_Nc q.1 q.2 G.1) (hD : D_L_law_960 rec x0 x1 x2 x3 x4 σ = some R) (hrec : ∀ {x0 : Nat} {x1 : Nat} {x2 : Nat} {x3 : Nat} {x4 : Int} {σ : mS} {R : (mS ⊕ (Int × mS))}, rec x0 x1 x2 x3 x4 σ = some R → ∀ {r : mX} {τ : mS}, (∀ z, R = (Sum.inl z) → Ev G M_L_law 1920 [] [] z r τ) ∧ (∀ z, R = (Sum.inr z) → r = .inl (some (vi z.1)) ∧ τ = z.2) → Ev G M_L_law 23 [(0, vr x0), (1, vr x1), (2, vr x2), (3, vr x3), (4, vi x4)] [] σ r τ) (hk : (∀ z, R = (Sum.inl z) → Ev G M_L_law 1920 [] [] z r τ) ∧ (∀ z, R = (Sum.inr z) → r = .inl (some (vi z.1)) ∧ τ = z.2)) : Ev G M_L_law 960 [(0, vr x0), (1, vr x1), (2, vr x2), (3, vr x3), (4, vi x4)] [] σ r τ := by
  unfold D_L_law_960 at hD
  refine ev_goto (tgt := 1914) dL_law_960 (by decide) ?_
  exact lk_L_law_1914 hnc hD hrec hk
def D_L_law_1028 (rec : Nat → Nat → Nat → Nat → Int → mS → Option (mS ⊕ (Int × mS))) (x0 : Nat) (x1 : Nat) (x2 : Nat) (x3 : Nat) (x4 : Int) (σ : mS) : Option (mS ⊕ (Int × mS)) :=
  D_L_law_1914 rec x0 x1 x2 x3 x4 σ
set_option maxRecDepth 100000 in
set_option maxHeartbeats 4000000 in
theorem lk_L_law_1028 {G : mG} {rec : Nat → Nat → Nat → Nat → Int → mS → Option (mS ⊕ (Int × mS))} {x0 : Nat} {x1 : Nat} {x2 : Nat} {x3 : Nat} {x4 : Int} {σ : mS} {R : (mS ⊕ (Int × mS))} {r : mX} {τ : mS} (hnc : ∀ q ∈ mNcs, va_Nc q.1 q.2 G.1) (hD : D_L_law_1028 rec x0 x1 x2 x3 x4 σ = some R) (hrec : ∀ {x0 : Nat} {x1 : Nat} {x2 : Nat} {x3 : Nat} {x4 : Int} {σ : mS} {R : (mS ⊕ (Int × mS))}, rec x0 x1 x2 x3 x4 σ = some R → ∀ {r : mX} {τ : mS}, (∀ z, R = (Sum.inl z) → Ev G M_L_law 1920 [] [] z r τ) ∧ (∀ z, R = (Sum.inr z) → r = .inl (some (vi z.1)) ∧ τ = z.2) → Ev G M_L_law 23 [(0, vr x0), (1, vr x1), (2, vr x2), (3, vr x3), (4, vi x4)] [] σ r τ) (hk : (∀ z, R = (Sum.inl z) → Ev G M_L_law 1920 [] [] z r τ) ∧ (∀ z, R = (Sum.inr z) → r = .inl (some (vi z.1)) ∧ τ = z.2)) : Ev G M_L_law 1028 [(0, vr x0), (1, vr x1), (2, vr x2), (3, vr x3), (4, vi x4)] [] σ r τ := by
  unfold D_L_law_1028 at hD
  refine ev_goto (tgt := 1914) dL_law_1028 (by decide) ?_
  exact lk_L_law_1914 hnc hD hrec hk
def D_L_law_1108 (rec : Nat → Nat → Nat → Nat → Int → mS → Option (mS ⊕ (Int × mS))) (x0 : Nat) (x1 : Nat) (x2 : Nat) (x3 : Nat) (x4 : Int) (σ : mS) : Option (mS ⊕ (Int × mS)) :=
  D_L_law_1914 rec x0 x1 x2 x3 x4 σ
set_option maxRecDepth 100000 in
set_option maxHeartbeats 4000000 in
theorem lk_L_law_1108 {G : mG} {rec : Nat → Nat → Nat → Nat → Int → mS → Option (mS ⊕ (Int × mS))} {x0 : Nat} {x1 : Nat} {x2 : Nat} {x3 : Nat} {x4 : Int} {σ : mS} {R : (mS ⊕ (Int × mS))} {r : mX} {τ : mS} (hnc : ∀ q ∈ mNcs, va_Nc q.1 q.2 G.1) (hD : D_L_law_1108 rec x0 x1 x2 x3 x4 σ = some R) (hrec : ∀ {x0 : Nat} {x1 : Nat} {x2 : Nat} {x3 : Nat} {x4 : Int} {σ : mS} {R : (mS ⊕ (Int × mS))}, rec x0 x1 x2 x3 x4 σ = some R → ∀ {r : mX} {τ : mS}, (∀ z, R = (Sum.inl z) → Ev G M_L_law 1920 [] [] z r τ) ∧ (∀ z, R = (Sum.inr z) → r = .inl (some (vi z.1)) ∧ τ = z.2) → Ev G M_L_law 23 [(0, vr x0), (1, vr x1), (2, vr x2), (3, vr x3), (4, vi x4)] [] σ r τ) (hk : (∀ z, R = (Sum.inl z) → Ev G M_L_law 1920 [] [] z r τ) ∧ (∀ z, R = (Sum.inr z) → r = .inl (some (vi z.1)) ∧ τ = z.2)) : Ev G M_L_law 1108 [(0, vr x0), (1, vr x1), (2, vr x2), (3, vr x3), (4, vi x4)] [] σ r τ := by
  unfold D_L_law_1108 at hD
  refine ev_goto (tgt := 1914) dL_law_1108 (by decide) ?_
  exact lk_L_law_1914 hnc hD hrec hk
def D_L_law_1176 (rec : Nat → Nat → Nat → Nat → Int → mS → Option (mS ⊕ (Int × mS))) (x0 : Nat) (x1 : Nat) (x2 : Nat) (x3 : Nat) (x4 : Int) (σ : mS) : Option (mS ⊕ (Int × mS)) :=
  D_L_law_1914 rec x0 x1 x2 x3 x4 σ
set_option maxRecDepth 100000 in
set_option maxHeartbeats 4000000 in
theorem lk_L_law_1176 {G : mG} {rec : Nat → Nat → Nat → Nat → Int → mS → Option (mS ⊕ (Int × mS))} {x0 : Nat} {x1 : Nat} {x2 : Nat} {x3 : Nat} {x4 : Int} {σ : mS} {R : (mS ⊕ (Int × mS))} {r : mX} {τ : mS} (hnc : ∀ q ∈ mNcs, va_Nc q.1 q.2 G.1) (hD : D_L_law_1176 rec x0 x1 x2 x3 x4 σ = some R) (hrec : ∀ {x0 : Nat} {x1 : Nat} {x2 : Nat} {x3 : Nat} {x4 : Int} {σ : mS} {R : (mS ⊕ (Int × mS))}, rec x0 x1 x2 x3 x4 σ = some R → ∀ {r : mX} {τ : mS}, (∀ z, R = (Sum.inl z) → Ev G M_L_law 1920 [] [] z r τ) ∧ (∀ z, R = (Sum.inr z) → r = .inl (some (vi z.1)) ∧ τ = z.2) → Ev G M_L_law 23 [(0, vr x0), (1, vr x1), (2, vr x2), (3, vr x3), (4, vi x4)] [] σ r τ) (hk : (∀ z, R = (Sum.inl z) → Ev G M_L_law 1920 [] [] z r τ) ∧ (∀ z, R = (Sum.inr z) → r = .inl (some (vi z.1)) ∧ τ = z.2)) : Ev G M_L_law 1176 [(0, vr x0), (1, vr x1), (2, vr x2), (3, vr x3), (4, vi x4)] [] σ r τ := by
  unfold D_L_law_1176 at hD
  refine ev_goto (tgt := 1914) dL_law_1176 (by decide) ?_
  exact lk_L_law_1914 hnc hD hrec hk
def D_L_law_1244 (rec : Nat → Nat → Nat → Nat → Int → mS → Option (mS ⊕ (Int × mS))) (x0 : Nat) (x1 : Nat) (x2 : Nat) (x3 : Nat) (x4 : Int) (σ : mS) : Option (mS ⊕ (Int × mS)) :=
  D_L_law_1914 rec x0 x1 x2 x3 x4 σ
set_option maxRecDepth 100000 in
set_option maxHeartbeats 4000000 in
theorem lk_L_law_1244 {G : mG} {rec : Nat → Nat → Nat → Nat → Int → mS → Option (mS ⊕ (Int × mS))} {x0 : Nat} {x1 : Nat} {x2 : Nat} {x3 : Nat} {x4 : Int} {σ : mS} {R : (mS ⊕ (Int × mS))} {r : mX} {τ : mS} (hnc : ∀ q ∈ mNcs, va_Nc q.1 q.2 G.1) (hD : D_L_law_1244 rec x0 x1 x2 x3 x4 σ = some R) (hrec : ∀ {x0 : Nat} {x1 : Nat} {x2 : Nat} {x3 : Nat} {x4 : Int} {σ : mS} {R : (mS ⊕ (Int × mS))}, rec x0 x1 x2 x3 x4 σ = some R → ∀ {r : mX} {τ : mS}, (∀ z, R = (Sum.inl z) → Ev G M_L_law 1920 [] [] z r τ) ∧ (∀ z, R = (Sum.inr z) → r = .inl (some (vi z.1)) ∧ τ = z.2) → Ev G M_L_law 23 [(0, vr x0), (1, vr x1), (2, vr x2), (3, vr x3), (4, vi x4)] [] σ r τ) (hk : (∀ z, R = (Sum.inl z) → Ev G M_L_law 1920 [] [] z r τ) ∧ (∀ z, R = (Sum.inr z) → r = .inl (some (vi z.1)) ∧ τ = z.2)) : Ev G M_L_law 1244 [(0, vr x0), (1, vr x1), (2, vr x2), (3, vr x3), (4, vi x4)] [] σ r τ := by
  unfold D_L_law_1244 at hD
  refine ev_goto (tgt := 1914) dL_law_1244 (by decide) ?_
  exact lk_L_law_1914 hnc hD hrec hk
def D_L_law_1312 (rec : Nat → Nat → Nat → Nat → Int → mS → Option (mS ⊕ (Int × mS))) (x0 : Nat) (x1 : Nat) (x2 : Nat) (x3 : Nat) (x4 : Int) (σ : mS) : Option (mS ⊕ (Int × mS)) :=
  D_L_law_1914 rec x0 x1 x2 x3 x4 σ
set_option maxRecDepth 100000 in
set_option maxHeartbeats 4000000 in
theorem lk_L_law_1312 {G : mG} {rec : Nat → Nat → Nat → Nat → Int → mS → Option (mS ⊕ (Int × mS))} {x0 : Nat} {x1 : Nat} {x2 : Nat} {x3 : Nat} {x4 : Int} {σ : mS} {R : (mS ⊕ (Int × mS))} {r : mX} {τ : mS} (hnc : ∀ q ∈ mNcs, va_Nc q.1 q.2 G.1) (hD : D_L_law_1312 rec x0 x1 x2 x3 x4 σ = some R) (hrec : ∀ {x0 : Nat} {x1 : Nat} {x2 : Nat} {x3 : Nat} {x4 : Int} {σ : mS} {R : (mS ⊕ (Int × mS))}, rec x0 x1 x2 x3 x4 σ = some R → ∀ {r : mX} {τ : mS}, (∀ z, R = (Sum.inl z) → Ev G M_L_law 1920 [] [] z r τ) ∧ (∀ z, R = (Sum.inr z) → r = .inl (some (vi z.1)) ∧ τ = z.2) → Ev G M_L_law 23 [(0, vr x0), (1, vr x1), (2, vr x2), (3, vr x3), (4, vi x4)] [] σ r τ) (hk : (∀ z, R = (Sum.inl z) → Ev G M_L_law 1920 [] [] z r τ) ∧ (∀ z, R = (Sum.inr z) → r = .inl (some (vi z.1)) ∧ τ = z.2)) : Ev G M_L_law 1312 [(0, vr x0), (1, vr x1), (2, vr x2), (3, vr x3), (4, vi x4)] [] σ r τ := by
  unfold D_L_law_1312 at hD
  refine ev_goto (tgt := 1914) dL_law_1312 (by decide) ?_
  exact lk_L_law_1914 hnc hD hrec hk
def D_L_law_1368 (rec : Nat → Nat → Nat → Nat → Int → mS → Option (mS ⊕ (Int × mS))) (x0 : Nat) (x1 : Nat) (x2 : Nat) (x3 : Nat) (x4 : Int) (σ : mS) : Option (mS ⊕ (Int × mS)) :=
  D_L_law_1914 rec x0 x1 x2 x3 x4 σ
set_option maxRecDepth 100000 in
set_option maxHeartbeats 4000000 in
theorem lk_L_law_1368 {G : mG} {rec : Nat → Nat → Nat → Nat → Int → mS → Option (mS ⊕ (Int × mS))} {x0 : Nat} {x1 : Nat} {x2 : Nat} {x3 : Nat} {x4 : Int} {σ : mS} {R : (mS ⊕ (Int × mS))} {r : mX} {τ : mS} (hnc : ∀ q ∈ mNcs, va_Nc q.1 q.2 G.1) (hD : D_L_law_1368 rec x0 x1 x2 x3 x4 σ = some R) (hrec : ∀ {x0 : Nat} {x1 : Nat} {x2 : Nat} {x3 : Nat} {x4 : Int} {σ : mS} {R : (mS ⊕ (Int × mS))}, rec x0 x1 x2 x3 x4 σ = some R → ∀ {r : mX} {τ : mS}, (∀ z, R = (Sum.inl z) → Ev G M_L_law 1920 [] [] z r τ) ∧ (∀ z, R = (Sum.inr z) → r = .inl (some (vi z.1)) ∧ τ = z.2) → Ev G M_L_law 23 [(0, vr x0), (1, vr x1), (2, vr x2), (3, vr x3), (4, vi x4)] [] σ r τ) (hk : (∀ z, R = (Sum.inl z) → Ev G M_L_law 1920 [] [] z r τ) ∧ (∀ z, R = (Sum.inr z) → r = .inl (some (vi z.1)) ∧ τ = z.2)) : Ev G M_L_law 1368 [(0, vr x0), (1, vr x1), (2, vr x2), (3, vr x3), (4, vi x4)] [] σ r τ := by
  unfold D_L_law_1368 at hD
  refine ev_goto (tgt := 1914) dL_law_1368 (by decide) ?_
  exact lk_L_law_1914 hnc hD hrec hk
def D_L_law_1462 (rec : Nat → Nat → Nat → Nat → Int → mS → Option (mS ⊕ (Int × mS))) (x0 : Nat) (x1 : Nat) (x2 : Nat) (x3 : Nat) (x4 : Int) (σ : mS) : Option (mS ⊕ (Int × mS)) :=
  D_L_law_1914 rec x0 x1 x2 x3 x4 σ
set_option maxRecDepth 100000 in
set_option maxHeartbeats 4000000 in
theorem lk_L_law_1462 {G : mG} {rec : Nat → Nat → Nat → Nat → Int → mS → Option (mS ⊕ (Int × mS))} {x0 : Nat} {x1 : Nat} {x2 : Nat} {x3 : Nat} {x4 : Int} {σ : mS} {R : (mS ⊕ (Int × mS))} {r : mX} {τ : mS} (hnc : ∀ q ∈ mNcs, va_Nc q.1 q.2 G.1) (hD : D_L_law_1462 rec x0 x1 x2 x3 x4 σ = some R) (hrec : ∀ {x0 : Nat} {x1 : Nat} {x2 : Nat} {x3 : Nat} {x4 : Int} {σ : mS} {R : (mS ⊕ (Int × mS))}, rec x0 x1 x2 x3 x4 σ = some R → ∀ {r : mX} {τ : mS}, (∀ z, R = (Sum.inl z) → Ev G M_L_law 1920 [] [] z r τ) ∧ (∀ z, R = (Sum.inr z) → r = .inl (some (vi z.1)) ∧ τ = z.2) → Ev G M_L_law 23 [(0, vr x0), (1, vr x1), (2, vr x2), (3, vr x3), (4, vi x4)] [] σ r τ) (hk : (∀ z, R = (Sum.inl z) → Ev G M_L_law 1920 [] [] z r τ) ∧ (∀ z, R = (Sum.inr z) → r = .inl (some (vi z.1)) ∧ τ = z.2)) : Ev G M_L_law 1462 [(0, vr x0), (1, vr x1), (2, vr x2), (3, vr x3), (4, vi x4)] [] σ r τ := by
  unfold D_L_law_1462 at hD
  refine ev_goto (tgt := 1914) dL_law_1462 (by decide) ?_
  exact lk_L_law_1914 hnc hD hrec hk
def D_L_law_1542 (rec : Nat → Nat → Nat → Nat → Int → mS → Option (mS ⊕ (Int × mS))) (x0 : Nat) (x1 : Nat) (x2 : Nat) (x3 : Nat) (x4 : Int) (σ : mS) : Option (mS ⊕ (Int × mS)) :=
  D_L_law_1914 rec x0 x1 x2 x3 x4 σ
set_option maxRecDepth 100000 in
set_option maxHeartbeats 4000000 in
theorem lk_L_law_1542 {G : mG} {rec : Nat → Nat → Nat → Nat → Int → mS → Option (mS ⊕ (Int × mS))} {x0 : Nat} {x1 : Nat} {x2 : Nat} {x3 : Nat} {x4 : Int} {σ : mS} {R : (mS ⊕ (Int × mS))} {r : mX} {τ : mS} (hnc : ∀ q ∈ mNcs, va_Nc q.1 q.2 G.1) (hD : D_L_law_1542 rec x0 x1 x2 x3 x4 σ = some R) (hrec : ∀ {x0 : Nat} {x1 : Nat} {x2 : Nat} {x3 : Nat} {x4 : Int} {σ : mS} {R : (mS ⊕ (Int × mS))}, rec x0 x1 x2 x3 x4 σ = some R → ∀ {r : mX} {τ : mS}, (∀ z, R = (Sum.inl z) → Ev G M_L_law 1920 [] [] z r τ) ∧ (∀ z, R = (Sum.inr z) → r = .inl (some (vi z.1)) ∧ τ = z.2) → Ev G M_L_law 23 [(0, vr x0), (1, vr x1), (2, vr x2), (3, vr x3), (4, vi x4)] [] σ r τ) (hk : (∀ z, R = (Sum.inl z) → Ev G M_L_law 1920 [] [] z r τ) ∧ (∀ z, R = (Sum.inr z) → r = .inl (some (vi z.1)) ∧ τ = z.2)) : Ev G M_L_law 1542 [(0, vr x0), (1, vr x1), (2, vr x2), (3, vr x3), (4, vi x4)] [] σ r τ := by
  unfold D_L_law_1542 at hD
  refine ev_goto (tgt := 1914) dL_law_1542 (by decide) ?_
  exact lk_L_law_1914 hnc hD hrec hk
def D_L_law_1598 (rec : Nat → Nat → Nat → Nat → Int → mS → Option (mS ⊕ (Int × mS))) (x0 : Nat) (x1 : Nat) (x2 : Nat) (x3 : Nat) (x4 : Int) (σ : mS) : Option (mS ⊕ (Int × mS)) :=
  D_L_law_1914 rec x0 x1 x2 x3 x4 σ
set_option maxRecDepth 100000 in
set_option maxHeartbeats 4000000 in
theorem lk_L_law_1598 {G : mG} {rec : Nat → Nat → Nat → Nat → Int → mS → Option (mS ⊕ (Int × mS))} {x0 : Nat} {x1 : Nat} {x2 : Nat} {x3 : Nat} {x4 : Int} {σ : mS} {R : (mS ⊕ (Int × mS))} {r : mX} {τ : mS} (hnc : ∀ q ∈ mNcs, va_Nc q.1 q.2 G.1) (hD : D_L_law_1598 rec x0 x1 x2 x3 x4 σ = some R) (hrec : ∀ {x0 : Nat} {x1 : Nat} {x2 : Nat} {x3 : Nat} {x4 : Int} {σ : mS} {R : (mS ⊕ (Int × mS))}, rec x0 x1 x2 x3 x4 σ = some R → ∀ {r : mX} {τ : mS}, (∀ z, R = (Sum.inl z) → Ev G M_L_law 1920 [] [] z r τ) ∧ (∀ z, R = (Sum.inr z) → r = .inl (some (vi z.1)) ∧ τ = z.2) → Ev G M_L_law 23 [(0, vr x0), (1, vr x1), (2, vr x2), (3, vr x3), (4, vi x4)] [] σ r τ) (hk : (∀ z, R = (Sum.inl z) → Ev G M_L_law 1920 [] [] z r τ) ∧ (∀ z, R = (Sum.inr z) → r = .inl (some (vi z.1)) ∧ τ = z.2)) : Ev G M_L_law 1598 [(0, vr x0), (1, vr x1), (2, vr x2), (3, vr x3), (4, vi x4)] [] σ r τ := by
  unfold D_L_law_1598 at hD
  refine ev_goto (tgt := 1914) dL_law_1598 (by decide) ?_
  exact lk_L_law_1914 hnc hD hrec hk
def D_L_law_1666 (rec : Nat → Nat → Nat → Nat → Int → mS → Option (mS ⊕ (Int × mS))) (x0 : Nat) (x1 : Nat) (x2 : Nat) (x3 : Nat) (x4 : Int) (σ : mS) : Option (mS ⊕ (Int × mS)) :=
  D_L_law_1914 rec x0 x1 x2 x3 x4 σ
set_option maxRecDepth 100000 in
set_option maxHeartbeats 4000000 in
theorem lk_L_law_1666 {G : mG} {rec : Nat → Nat → Nat → Nat → Int → mS → Option (mS ⊕ (Int × mS))} {x0 : Nat} {x1 : Nat} {x2 : Nat} {x3 : Nat} {x4 : Int} {σ : mS} {R : (mS ⊕ (Int × mS))} {r : mX} {τ : mS} (hnc : ∀ q ∈ mNcs, va_Nc q.1 q.2 G.1) (hD : D_L_law_1666 rec x0 x1 x2 x3 x4 σ = some R) (hrec : ∀ {x0 : Nat} {x1 : Nat} {x2 : Nat} {x3 : Nat} {x4 : Int} {σ : mS} {R : (mS ⊕ (Int × mS))}, rec x0 x1 x2 x3 x4 σ = some R → ∀ {r : mX} {τ : mS}, (∀ z, R = (Sum.inl z) → Ev G M_L_law 1920 [] [] z r τ) ∧ (∀ z, R = (Sum.inr z) → r = .inl (some (vi z.1)) ∧ τ = z.2) → Ev G M_L_law 23 [(0, vr x0), (1, vr x1), (2, vr x2), (3, vr x3), (4, vi x4)] [] σ r τ) (hk : (∀ z, R = (Sum.inl z) → Ev G M_L_law 1920 [] [] z r τ) ∧ (∀ z, R = (Sum.inr z) → r = .inl (some (vi z.1)) ∧ τ = z.2)) : Ev G M_L_law 1666 [(0, vr x0), (1, vr x1), (2, vr x2), (3, vr x3), (4, vi x4)] [] σ r τ := by
  unfold D_L_law_1666 at hD
  refine ev_goto (tgt := 1914) dL_law_1666 (by decide) ?_
  exact lk_L_law_1914 hnc hD hrec hk
def D_L_law_1734 (rec : Nat → Nat → Nat → Nat → Int → mS → Option (mS ⊕ (Int × mS))) (x0 : Nat) (x1 : Nat) (x2 : Nat) (x3 : Nat) (x4 : Int) (σ : mS) : Option (mS ⊕ (Int × mS)) :=
  D_L_law_1914 rec x0 x1 x2 x3 x4 σ
set_option maxRecDepth 100000 in
set_option maxHeartbeats 4000000 in
theorem lk_L_law_1734 {G : mG} {rec : Nat → Nat → Nat → Nat → Int → mS → Option (mS ⊕ (Int × mS))} {x0 : Nat} {x1 : Nat} {x2 : Nat} {x3 : Nat} {x4 : Int} {σ : mS} {R : (mS ⊕ (Int × mS))} {r : mX} {τ : mS} (hnc : ∀ q ∈ mNcs, va_Nc q.1 q.2 G.1) (hD : D_L_law_1734 rec x0 x1 x2 x3 x4 σ = some R) (hrec : ∀ {x0 : Nat} {x1 : Nat} {x2 : Nat} {x3 : Nat} {x4 : Int} {σ : mS} {R : (mS ⊕ (Int × mS))}, rec x0 x1 x2 x3 x4 σ = some R → ∀ {r : mX} {τ : mS}, (∀ z, R = (Sum.inl z) → Ev G M_L_law 1920 [] [] z r τ) ∧ (∀ z, R = (Sum.inr z) → r = .inl (some (vi z.1)) ∧ τ = z.2) → Ev G M_L_law 23 [(0, vr x0), (1, vr x1), (2, vr x2), (3, vr x3), (4, vi x4)] [] σ r τ) (hk : (∀ z, R = (Sum.inl z) → Ev G M_L_law 1920 [] [] z r τ) ∧ (∀ z, R = (Sum.inr z) → r = .inl (some (vi z.1)) ∧ τ = z.2)) : Ev G M_L_law 1734 [(0, vr x0), (1, vr x1), (2, vr x2), (3, vr x3), (4, vi x4)] [] σ r τ := by
  unfold D_L_law_1734 at hD
  refine ev_goto (tgt := 1914) dL_law_1734 (by decide) ?_
  exact lk_L_law_1914 hnc hD hrec hk
def D_L_law_1790 (rec : Nat → Nat → Nat → Nat → Int → mS → Option (mS ⊕ (Int × mS))) (x0 : Nat) (x1 : Nat) (x2 : Nat) (x3 : Nat) (x4 : Int) (σ : mS) : Option (mS ⊕ (Int × mS)) :=
  D_L_law_1914 rec x0 x1 x2 x3 x4 σ
set_option maxRecDepth 100000 in
set_option maxHeartbeats 4000000 in
theorem lk_L_law_1790 {G : mG} {rec : Nat → Nat → Nat → Nat → Int → mS → Option (mS ⊕ (Int × mS))} {x0 : Nat} {x1 : Nat} {x2 : Nat} {x3 : Nat} {x4 : Int} {σ : mS} {R : (mS ⊕ (Int × mS))} {r : mX} {τ : mS} (hnc : ∀ q ∈ mNcs, va_Nc q.1 q.2 G.1) (hD : D_L_law_1790 rec x0 x1 x2 x3 x4 σ = some R) (hrec : ∀ {x0 : Nat} {x1 : Nat} {x2 : Nat} {x3 : Nat} {x4 : Int} {σ : mS} {R : (mS ⊕ (Int × mS))}, rec x0 x1 x2 x3 x4 σ = some R → ∀ {r : mX} {τ : mS}, (∀ z, R = (Sum.inl z) → Ev G M_L_law 1920 [] [] z r τ) ∧ (∀ z, R = (Sum.inr z) → r = .inl (some (vi z.1)) ∧ τ = z.2) → Ev G M_L_law 23 [(0, vr x0), (1, vr x1), (2, vr x2), (3, vr x3), (4, vi x4)] [] σ r τ) (hk : (∀ z, R = (Sum.inl z) → Ev G M_L_law 1920 [] [] z r τ) ∧ (∀ z, R = (Sum.inr z) → r = .inl (some (vi z.1)) ∧ τ = z.2)) : Ev G M_L_law 1790 [(0, vr x0), (1, vr x1), (2, vr x2), (3, vr x3), (4, vi x4)] [] σ r τ := by
  unfold D_L_law_1790 at hD
  refine ev_goto (tgt := 1914) dL_law_1790 (by decide) ?_
  exact lk_L_law_1914 hnc hD hrec hk
def D_L_law_1846 (rec : Nat → Nat → Nat → Nat → Int → mS → Option (mS ⊕ (Int × mS))) (x0 : Nat) (x1 : Nat) (x2 : Nat) (x3 : Nat) (x4 : Int) (σ : mS) : Option (mS ⊕ (Int × mS)) :=
  D_L_law_1914 rec x0 x1 x2 x3 x4 σ
set_option maxRecDepth 100000 in
set_option maxHeartbeats 4000000 in
theorem lk_L_law_1846 {G : mG} {rec : Nat → Nat → Nat → Nat → Int → mS → Option (mS ⊕ (Int × mS))} {x0 : Nat} {x1 : Nat} {x2 : Nat} {x3 : Nat} {x4 : Int} {σ : mS} {R : (mS ⊕ (Int × mS))} {r : mX} {τ : mS} (hnc : ∀ q ∈ mNcs, va_Nc q.1 q.2 G.1) (hD : D_L_law_1846 rec x0 x1 x2 x3 x4 σ = some R) (hrec : ∀ {x0 : Nat} {x1 : Nat} {x2 : Nat} {x3 : Nat} {x4 : Int} {σ : mS} {R : (mS ⊕ (Int × mS))}, rec x0 x1 x2 x3 x4 σ = some R → ∀ {r : mX} {τ : mS}, (∀ z, R = (Sum.inl z) → Ev G M_L_law 1920 [] [] z r τ) ∧ (∀ z, R = (Sum.inr z) → r = .inl (some (vi z.1)) ∧ τ = z.2) → Ev G M_L_law 23 [(0, vr x0), (1, vr x1), (2, vr x2), (3, vr x3), (4, vi x4)] [] σ r τ) (hk : (∀ z, R = (Sum.inl z) → Ev G M_L_law 1920 [] [] z r τ) ∧ (∀ z, R = (Sum.inr z) → r = .inl (some (vi z.1)) ∧ τ = z.2)) : Ev G M_L_law 1846 [(0, vr x0), (1, vr x1), (2, vr x2), (3, vr x3), (4, vi x4)] [] σ r τ := by
  unfold D_L_law_1846 at hD
  refine ev_goto (tgt := 1914) dL_law_1846 (by decide) ?_
  exact lk_L_law_1914 hnc hD hrec hk
def D_L_law_23 : Nat → Nat → Nat → Nat → Nat → Int → mS → Option (mS ⊕ (Int × mS))
  | 0, _, _, _, _, _, _ => none
  | f + 1, x0, x1, x2, x3, x4, σ =>
    (aLn σ x0).bind fun v1 =>
    if (mw (v1 - 6)) < x4 then
      some (Sum.inl σ)
    else
      (lI σ x0 x4).bind fun v2 =>
      if (mand v2 31) = 0 then
        (lI σ x0 (mw (x4 + 1))).bind fun v3 =>
        (lI σ x0 (mw (x4 + 2))).bind fun v4 =>
        (lI σ x0 (mw (x4 + 3))).bind fun v5 =>
        (lI σ x0 (mw (x4 + 4))).bind fun v6 =>
        (lI σ x0 (mw (x4 + 5))).bind fun v7 =>
        (tgO σ x1 7).bind fun _ =>
        (D_X8_feed x1 v3 v4 v5 v6 v7 σ).bind fun r8 =>
        (lI r8.2 x0 (mw (x4 + 1))).bind fun v9 =>
        (lI r8.2 x0 (mw (x4 + 2))).bind fun v10 =>
        (lI r8.2 x0 (mw (x4 + 3))).bind fun v11 =>
        (lI r8.2 x0 (mw (x4 + 4))).bind fun v12 =>
        (lI r8.2 x0 (mw (x4 + 5))).bind fun v13 =>
        (tgO r8.2 x2 8).bind fun _ =>
        (D_X9_feed x2 v9 v10 v11 v12 v13 r8.2).bind fun r14 =>
        if r8.1 = r14.1 then
          D_L_law_1914 (D_L_law_23 f) x0 x1 x2 x3 x4 r14.2
        else
          (bO 0).bind fun v15 =>
          some (Sum.inr (v15, r14.2))
      else
      if (mand v2 31) = 1 then
        (lI σ x0 (mw (x4 + 1))).bind fun v16 =>
        (D_L_text x1 v16 x3 σ).bind fun r17 =>
        (lI r17.2 x0 (mw (x4 + 1))).bind fun v18 =>
        (tgO r17.2 x2 8).bind fun _ =>
        (D_X9_text x2 v18 r17.2).bind fun r19 =>
        (tgO r19.2 x2 8).bind fun _ =>
        (D_X9_thrown x2 r19.2).bind fun r20 =>
        if r20 = r17.1 then
          if r17.1 ≠ 0 then
            D_L_law_310 (D_L_law_23 f) x0 x1 x2 x3 x4 r19.2
          else
            (lL r19.2 x3 0).bind fun v21 =>
            if (mlcmp v21 (mi2l r19.1)) = 0 then
              D_L_law_310 (D_L_law_23 f) x0 x1 x2 x3 x4 r19.2
            else
              (bO 0).bind fun v22 =>
              some (Sum.inr (v22, r19.2))
        else
          (bO 0).bind fun v23 =>
          some (Sum.inr (v23, r19.2))
      else
      if (mand v2 31) = 2 then
        (tgO σ x1 7).bind fun _ =>
        (D_X8_fault x1 σ).bind fun r24 =>
        (tgO σ x2 8).bind fun _ =>
        (D_X9_fault x2 σ).bind fun r25 =>
        if r24 = r25.1 then
          D_L_law_1914 (D_L_law_23 f) x0 x1 x2 x3 x4 r25.2
        else
          (bO 0).bind fun v26 =>
          some (Sum.inr (v26, r25.2))
      else
      if (mand v2 31) = 3 then
        (lI σ x0 (mw (x4 + 1))).bind fun v27 =>
        (lI σ x0 (mw (x4 + 2))).bind fun v28 =>
        (D_L_set x1 v27 v28 x3 σ).bind fun r29 =>
        (lI r29.2 x0 (mw (x4 + 1))).bind fun v30 =>
        (lI r29.2 x0 (mw (x4 + 2))).bind fun v31 =>
        (tgO r29.2 x2 8).bind fun _ =>
        (D_X9_set x2 v30 v31 r29.2).bind fun r32 =>
        (tgO r32.2 x2 8).bind fun _ =>
        (D_X9_thrown x2 r32.2).bind fun r33 =>
        if r33 = r29.1 then
          if r29.1 ≠ 0 then
            D_L_law_391 (D_L_law_23 f) x0 x1 x2 x3 x4 r32.2
          else
            (lL r32.2 x3 0).bind fun v34 =>
            if (mlcmp v34 (mi2l r32.1)) = 0 then
              D_L_law_391 (D_L_law_23 f) x0 x1 x2 x3 x4 r32.2
            else
              (bO 0).bind fun v35 =>
              some (Sum.inr (v35, r32.2))
        else
          (bO 0).bind fun v36 =>
          some (Sum.inr (v36, r32.2))
      else
      if (mand v2 31) = 4 then
        (lI σ x0 (mw (x4 + 1))).bind fun v37 =>
        (lI σ x0 (mw (x4 + 2))).bind fun v38 =>
        (lI σ x0 (mw (x4 + 3))).bind fun v39 =>
        (D_L_redate x1 v37 v38 v39 x3 σ).bind fun r40 =>
        (lI r40.2 x0 (mw (x4 + 1))).bind fun v41 =>
        (lI r40.2 x0 (mw (x4 + 2))).bind fun v42 =>
        (lI r40.2 x0 (mw (x4 + 3))).bind fun v43 =>
        (tgO r40.2 x2 8).bind fun _ =>
        (D_X9_redate x2 v41 v42 v43 r40.2).bind fun r44 =>
        (tgO r44.2 x2 8).bind fun _ =>
        (D_X9_thrown x2 r44.2).bind fun r45 =>
        if r45 = r40.1 then
          if r40.1 ≠ 0 then
            D_L_law_471 (D_L_law_23 f) x0 x1 x2 x3 x4 r44.2
          else
            (lL r44.2 x3 0).bind fun v46 =>
            if (mlcmp v46 (mi2l r44.1)) = 0 then
              D_L_law_471 (D_L_law_23 f) x0 x1 x2 x3 x4 r44.2
            else
              (bO 0).bind fun v47 =>
              some (Sum.inr (v47, r44.2))
        else
          (bO 0).bind fun v48 =>
          some (Sum.inr (v48, r44.2))
      else
      if (mand v2 31) = 5 then
        (lI σ x0 (mw (x4 + 1))).bind fun v49 =>
        (lI σ x0 (mw (x4 + 2))).bind fun v50 =>
        (lI σ x0 (mw (x4 + 3))).bind fun v51 =>
        (lI σ x0 (mw (x4 + 4))).bind fun v52 =>
        (D_L_before x1 v49 v50 v51 v52 x3 σ).bind fun r53 =>
        (lI r53.2 x0 (mw (x4 + 1))).bind fun v54 =>
        (lI r53.2 x0 (mw (x4 + 2))).bind fun v55 =>
        (lI r53.2 x0 (mw (x4 + 3))).bind fun v56 =>
        (lI r53.2 x0 (mw (x4 + 4))).bind fun v57 =>
        (tgO r53.2 x2 8).bind fun _ =>
        (D_X9_before x2 v54 v55 v56 v57 r53.2).bind fun r58 =>
        (tgO r58.2 x2 8).bind fun _ =>
        (D_X9_thrown x2 r58.2).bind fun r59 =>
        if r59 = r53.1 then
          if r53.1 ≠ 0 then
            D_L_law_563 (D_L_law_23 f) x0 x1 x2 x3 x4 r58.2
          else
            (lL r58.2 x3 0).bind fun v60 =>
            if (mlcmp v60 (mi2l r58.1)) = 0 then
              D_L_law_563 (D_L_law_23 f) x0 x1 x2 x3 x4 r58.2
            else
              (bO 0).bind fun v61 =>
              some (Sum.inr (v61, r58.2))
        else
          (bO 0).bind fun v62 =>
          some (Sum.inr (v62, r58.2))
      else
      if (mand v2 31) = 6 then
        (lI σ x0 (mw (x4 + 1))).bind fun v63 =>
        (lI σ x0 (mw (x4 + 2))).bind fun v64 =>
        (lI σ x0 (mw (x4 + 3))).bind fun v65 =>
        (D_L_bounds x1 v63 v64 v65 x3 σ).bind fun r66 =>
        (lI r66.2 x0 (mw (x4 + 1))).bind fun v67 =>
        (lI r66.2 x0 (mw (x4 + 2))).bind fun v68 =>
        (lI r66.2 x0 (mw (x4 + 3))).bind fun v69 =>
        (tgO r66.2 x2 8).bind fun _ =>
        (D_X9_bounds x2 v67 v68 v69 r66.2).bind fun r70 =>
        (tgO r70.2 x2 8).bind fun _ =>
        (D_X9_thrown x2 r70.2).bind fun r71 =>
        if r71 = r66.1 then
          if r66.1 ≠ 0 then
            D_L_law_643 (D_L_law_23 f) x0 x1 x2 x3 x4 r70.2
          else
            (lL r70.2 x3 0).bind fun v72 =>
            if (mlcmp v72 (mi2l r70.1)) = 0 then
              D_L_law_643 (D_L_law_23 f) x0 x1 x2 x3 x4 r70.2
            else
              (bO 0).bind fun v73 =>
              some (Sum.inr (v73, r70.2))
        else
          (bO 0).bind fun v74 =>
          some (Sum.inr (v74, r70.2))
      else
      if (mand v2 31) = 7 then
        (lI σ x0 (mw (x4 + 1))).bind fun v75 =>
        (D_L_drop x1 v75 x3 σ).bind fun r76 =>
        (lI r76.2 x0 (mw (x4 + 1))).bind fun v77 =>
        (tgO r76.2 x2 8).bind fun _ =>
        (D_X9_drop x2 v77 r76.2).bind fun r78 =>
        (tgO r78.2 x2 8).bind fun _ =>
        (D_X9_thrown x2 r78.2).bind fun r79 =>
        if r79 = r76.1 then
          if r76.1 ≠ 0 then
            D_L_law_699 (D_L_law_23 f) x0 x1 x2 x3 x4 r78.2
          else
            (lL r78.2 x3 0).bind fun v80 =>
            if (mlcmp v80 (mi2l r78.1)) = 0 then
              D_L_law_699 (D_L_law_23 f) x0 x1 x2 x3 x4 r78.2
            else
              (bO 0).bind fun v81 =>
              some (Sum.inr (v81, r78.2))
        else
          (bO 0).bind fun v82 =>
          some (Sum.inr (v82, r78.2))
      else
      if (mand v2 31) = 8 then
        (tgO σ x1 7).bind fun _ =>
        (D_X8_undo x1 σ).bind fun r83 =>
        (tgO r83.2 x2 8).bind fun _ =>
        (D_X9_undo x2 r83.2).bind fun r84 =>
        if r83.1 = r84.1 then
          D_L_law_1914 (D_L_law_23 f) x0 x1 x2 x3 x4 r84.2
        else
          (bO 0).bind fun v85 =>
          some (Sum.inr (v85, r84.2))
      else
      if (mand v2 31) = 9 then
        (lI σ x0 (mw (x4 + 1))).bind fun v86 =>
        (D_L_told x1 v86 x3 σ).bind fun r87 =>
        (lI r87.2 x0 (mw (x4 + 1))).bind fun v88 =>
        (tgO r87.2 x2 8).bind fun _ =>
        (D_X9_told x2 v88 r87.2).bind fun r89 =>
        (tgO r89.2 x2 8).bind fun _ =>
        (D_X9_thrown x2 r89.2).bind fun r90 =>
        if r90 = r87.1 then
          if r87.1 ≠ 0 then
            D_L_law_768 (D_L_law_23 f) x0 x1 x2 x3 x4 r89.2
          else
            (lL r89.2 x3 0).bind fun v91 =>
            if (mlcmp v91 (mi2l r89.1)) = 0 then
              D_L_law_768 (D_L_law_23 f) x0 x1 x2 x3 x4 r89.2
            else
              (bO 0).bind fun v92 =>
              some (Sum.inr (v92, r89.2))
        else
          (bO 0).bind fun v93 =>
          some (Sum.inr (v93, r89.2))
      else
      if (mand v2 31) = 10 then
        (lI σ x0 (mw (x4 + 1))).bind fun v94 =>
        (D_L_age x1 v94 x3 σ).bind fun r95 =>
        (lI r95.2 x0 (mw (x4 + 1))).bind fun v96 =>
        (tgO r95.2 x2 8).bind fun _ =>
        (D_X9_age x2 v96 r95.2).bind fun r97 =>
        (tgO r97.2 x2 8).bind fun _ =>
        (D_X9_thrown x2 r97.2).bind fun r98 =>
        if r98 = r95.1 then
          if r95.1 ≠ 0 then
            D_L_law_824 (D_L_law_23 f) x0 x1 x2 x3 x4 r97.2
          else
            (lL r97.2 x3 0).bind fun v99 =>
            if (mlcmp v99 (mi2l r97.1)) = 0 then
              D_L_law_824 (D_L_law_23 f) x0 x1 x2 x3 x4 r97.2
            else
              (bO 0).bind fun v100 =>
              some (Sum.inr (v100, r97.2))
        else
          (bO 0).bind fun v101 =>
          some (Sum.inr (v101, r97.2))
      else
      if (mand v2 31) = 11 then
        (lI σ x0 (mw (x4 + 1))).bind fun v102 =>
        (lI σ x0 (mw (x4 + 2))).bind fun v103 =>
        (D_L_years x1 v102 v103 x3 σ).bind fun r104 =>
        (lI r104.2 x0 (mw (x4 + 1))).bind fun v105 =>
        (lI r104.2 x0 (mw (x4 + 2))).bind fun v106 =>
        (tgO r104.2 x2 8).bind fun _ =>
        (D_X9_years x2 v105 v106 r104.2).bind fun r107 =>
        (tgO r107.2 x2 8).bind fun _ =>
        (D_X9_thrown x2 r107.2).bind fun r108 =>
        if r108 = r104.1 then
          if r104.1 ≠ 0 then
            D_L_law_892 (D_L_law_23 f) x0 x1 x2 x3 x4 r107.2
          else
            (lL r107.2 x3 0).bind fun v109 =>
            if (mlcmp v109 (mi2l r107.1)) = 0 then
              D_L_law_892 (D_L_law_23 f) x0 x1 x2 x3 x4 r107.2
            else
              (bO 0).bind fun v110 =>
              some (Sum.inr (v110, r107.2))
        else
          (bO 0).bind fun v111 =>
          some (Sum.inr (v111, r107.2))
      else
      if (mand v2 31) = 12 then
        (lI σ x0 (mw (x4 + 1))).bind fun v112 =>
        (lI σ x0 (mw (x4 + 2))).bind fun v113 =>
        (D_L_knot x1 v112 v113 x3 σ).bind fun r114 =>
        (lI r114.2 x0 (mw (x4 + 1))).bind fun v115 =>
        (lI r114.2 x0 (mw (x4 + 2))).bind fun v116 =>
        (tgO r114.2 x2 8).bind fun _ =>
        (D_X9_knot x2 v115 v116 r114.2).bind fun r117 =>
        (tgO r117.2 x2 8).bind fun _ =>
        (D_X9_thrown x2 r117.2).bind fun r118 =>
        if r118 = r114.1 then
          if r114.1 ≠ 0 then
            D_L_law_960 (D_L_law_23 f) x0 x1 x2 x3 x4 r117.2
          else
            (lL r117.2 x3 0).bind fun v119 =>
            if (mlcmp v119 (mi2l r117.1)) = 0 then
              D_L_law_960 (D_L_law_23 f) x0 x1 x2 x3 x4 r117.2
            else
              (bO 0).bind fun v120 =>
              some (Sum.inr (v120, r117.2))
        else
          (bO 0).bind fun v121 =>
          some (Sum.inr (v121, r117.2))
      else
      if (mand v2 31) = 13 then
        (lI σ x0 (mw (x4 + 1))).bind fun v122 =>
        (lI σ x0 (mw (x4 + 2))).bind fun v123 =>
        (D_L_sample x1 v122 v123 x3 σ).bind fun r124 =>
        (lI r124.2 x0 (mw (x4 + 1))).bind fun v125 =>
        (lI r124.2 x0 (mw (x4 + 2))).bind fun v126 =>
        (tgO r124.2 x2 8).bind fun _ =>
        (D_X9_sample x2 v125 v126 r124.2).bind fun r127 =>
        (tgO r127.2 x2 8).bind fun _ =>
        (D_X9_thrown x2 r127.2).bind fun r128 =>
        if r128 = r124.1 then
          if r124.1 ≠ 0 then
            D_L_law_1028 (D_L_law_23 f) x0 x1 x2 x3 x4 r127.2
          else
            (lL r127.2 x3 0).bind fun v129 =>
            if (mlcmp v129 (mi2l r127.1)) = 0 then
              D_L_law_1028 (D_L_law_23 f) x0 x1 x2 x3 x4 r127.2
            else
              (bO 0).bind fun v130 =>
              some (Sum.inr (v130, r127.2))
        else
          (bO 0).bind fun v131 =>
          some (Sum.inr (v131, r127.2))
      else
      if (mand v2 31) = 14 then
        (lI σ x0 (mw (x4 + 1))).bind fun v132 =>
        (lI σ x0 (mw (x4 + 2))).bind fun v133 =>
        (lI σ x0 (mw (x4 + 3))).bind fun v134 =>
        (D_L_interval x1 v132 v133 v134 x3 σ).bind fun r135 =>
        (lI r135.2 x0 (mw (x4 + 1))).bind fun v136 =>
        (lI r135.2 x0 (mw (x4 + 2))).bind fun v137 =>
        (lI r135.2 x0 (mw (x4 + 3))).bind fun v138 =>
        (tgO r135.2 x2 8).bind fun _ =>
        (D_X9_interval x2 v136 v137 v138 r135.2).bind fun r139 =>
        (tgO r139.2 x2 8).bind fun _ =>
        (D_X9_thrown x2 r139.2).bind fun r140 =>
        if r140 = r135.1 then
          if r135.1 ≠ 0 then
            D_L_law_1108 (D_L_law_23 f) x0 x1 x2 x3 x4 r139.2
          else
            (lL r139.2 x3 0).bind fun v141 =>
            if (mlcmp v141 (mi2l r139.1)) = 0 then
              D_L_law_1108 (D_L_law_23 f) x0 x1 x2 x3 x4 r139.2
            else
              (bO 0).bind fun v142 =>
              some (Sum.inr (v142, r139.2))
        else
          (bO 0).bind fun v143 =>
          some (Sum.inr (v143, r139.2))
      else
      if (mand v2 31) = 15 then
        (lI σ x0 (mw (x4 + 1))).bind fun v144 =>
        (lI σ x0 (mw (x4 + 2))).bind fun v145 =>
        (D_L_misfit x1 v144 v145 x3 σ).bind fun r146 =>
        (lI r146.2 x0 (mw (x4 + 1))).bind fun v147 =>
        (lI r146.2 x0 (mw (x4 + 2))).bind fun v148 =>
        (tgO r146.2 x2 8).bind fun _ =>
        (D_X9_misfit x2 v147 v148 r146.2).bind fun r149 =>
        (tgO r149.2 x2 8).bind fun _ =>
        (D_X9_thrown x2 r149.2).bind fun r150 =>
        if r150 = r146.1 then
          if r146.1 ≠ 0 then
            D_L_law_1176 (D_L_law_23 f) x0 x1 x2 x3 x4 r149.2
          else
            (lL r149.2 x3 0).bind fun v151 =>
            if (mlcmp v151 (mi2l r149.1)) = 0 then
              D_L_law_1176 (D_L_law_23 f) x0 x1 x2 x3 x4 r149.2
            else
              (bO 0).bind fun v152 =>
              some (Sum.inr (v152, r149.2))
        else
          (bO 0).bind fun v153 =>
          some (Sum.inr (v153, r149.2))
      else
      if (mand v2 31) = 16 then
        (lI σ x0 (mw (x4 + 1))).bind fun v154 =>
        (lI σ x0 (mw (x4 + 2))).bind fun v155 =>
        (D_L_place x1 v154 v155 x3 σ).bind fun r156 =>
        (lI r156.2 x0 (mw (x4 + 1))).bind fun v157 =>
        (lI r156.2 x0 (mw (x4 + 2))).bind fun v158 =>
        (tgO r156.2 x2 8).bind fun _ =>
        (D_X9_place x2 v157 v158 r156.2).bind fun r159 =>
        (tgO r159.2 x2 8).bind fun _ =>
        (D_X9_thrown x2 r159.2).bind fun r160 =>
        if r160 = r156.1 then
          if r156.1 ≠ 0 then
            D_L_law_1244 (D_L_law_23 f) x0 x1 x2 x3 x4 r159.2
          else
            (lL r159.2 x3 0).bind fun v161 =>
            if (mlcmp v161 (mi2l r159.1)) = 0 then
              D_L_law_1244 (D_L_law_23 f) x0 x1 x2 x3 x4 r159.2
            else
              (bO 0).bind fun v162 =>
              some (Sum.inr (v162, r159.2))
        else
          (bO 0).bind fun v163 =>
          some (Sum.inr (v163, r159.2))
      else
      if (mand v2 31) = 17 then
        (lI σ x0 (mw (x4 + 1))).bind fun v164 =>
        (lI σ x0 (mw (x4 + 2))).bind fun v165 =>
        (D_L_rule x1 v164 v165 x3 σ).bind fun r166 =>
        (lI r166.2 x0 (mw (x4 + 1))).bind fun v167 =>
        (lI r166.2 x0 (mw (x4 + 2))).bind fun v168 =>
        (tgO r166.2 x2 8).bind fun _ =>
        (D_X9_rule x2 v167 v168 r166.2).bind fun r169 =>
        (tgO r169.2 x2 8).bind fun _ =>
        (D_X9_thrown x2 r169.2).bind fun r170 =>
        if r170 = r166.1 then
          if r166.1 ≠ 0 then
            D_L_law_1312 (D_L_law_23 f) x0 x1 x2 x3 x4 r169.2
          else
            (lL r169.2 x3 0).bind fun v171 =>
            if (mlcmp v171 (mi2l r169.1)) = 0 then
              D_L_law_1312 (D_L_law_23 f) x0 x1 x2 x3 x4 r169.2
            else
              (bO 0).bind fun v172 =>
              some (Sum.inr (v172, r169.2))
        else
          (bO 0).bind fun v173 =>
          some (Sum.inr (v173, r169.2))
      else
      if (mand v2 31) = 18 then
        (lI σ x0 (mw (x4 + 1))).bind fun v174 =>
        (D_L_clash x1 v174 x3 σ).bind fun r175 =>
        (lI r175.2 x0 (mw (x4 + 1))).bind fun v176 =>
        (tgO r175.2 x2 8).bind fun _ =>
        (D_X9_clash x2 v176 r175.2).bind fun r177 =>
        (tgO r177.2 x2 8).bind fun _ =>
        (D_X9_thrown x2 r177.2).bind fun r178 =>
        if r178 = r175.1 then
          if r175.1 ≠ 0 then
            D_L_law_1368 (D_L_law_23 f) x0 x1 x2 x3 x4 r177.2
          else
            (lL r177.2 x3 0).bind fun v179 =>
            if (mlcmp v179 (mi2l r177.1)) = 0 then
              D_L_law_1368 (D_L_law_23 f) x0 x1 x2 x3 x4 r177.2
            else
              (bO 0).bind fun v180 =>
              some (Sum.inr (v180, r177.2))
        else
          (bO 0).bind fun v181 =>
          some (Sum.inr (v181, r177.2))
      else
      if (mand v2 31) = 19 then
        (tgO σ x1 7).bind fun _ =>
        (D_X8_blame x1 σ).bind fun r182 =>
        (tgO r182.2 x2 8).bind fun _ =>
        (D_X9_blame x2 r182.2).bind fun r183 =>
        if r182.1 = r183.1 then
          D_L_law_1914 (D_L_law_23 f) x0 x1 x2 x3 x4 r183.2
        else
          (bO 0).bind fun v184 =>
          some (Sum.inr (v184, r183.2))
      else
      if (mand v2 31) = 20 then
        (tgO σ x1 7).bind fun _ =>
        (D_X8_needless x1 σ).bind fun r185 =>
        (tgO r185.2 x2 8).bind fun _ =>
        (D_X9_needless x2 r185.2).bind fun r186 =>
        if r185.1 = r186.1 then
          D_L_law_1914 (D_L_law_23 f) x0 x1 x2 x3 x4 r186.2
        else
          (bO 0).bind fun v187 =>
          some (Sum.inr (v187, r186.2))
      else
      if (mand v2 31) = 21 then
        (lI σ x0 (mw (x4 + 1))).bind fun v188 =>
        (lI σ x0 (mw (x4 + 2))).bind fun v189 =>
        (D_L_without x1 v188 v189 x3 σ).bind fun r190 =>
        (lI r190.2 x0 (mw (x4 + 1))).bind fun v191 =>
        (lI r190.2 x0 (mw (x4 + 2))).bind fun v192 =>
        (tgO r190.2 x2 8).bind fun _ =>
        (D_X9_without x2 v191 v192 r190.2).bind fun r193 =>
        (tgO r193.2 x2 8).bind fun _ =>
        (D_X9_thrown x2 r193.2).bind fun r194 =>
        if r194 = r190.1 then
          if r190.1 ≠ 0 then
            D_L_law_1462 (D_L_law_23 f) x0 x1 x2 x3 x4 r193.2
          else
            (lL r193.2 x3 0).bind fun v195 =>
            if (mlcmp v195 (mi2l r193.1)) = 0 then
              D_L_law_1462 (D_L_law_23 f) x0 x1 x2 x3 x4 r193.2
            else
              (bO 0).bind fun v196 =>
              some (Sum.inr (v196, r193.2))
        else
          (bO 0).bind fun v197 =>
          some (Sum.inr (v197, r193.2))
      else
      if (mand v2 31) = 22 then
        (lI σ x0 (mw (x4 + 1))).bind fun v198 =>
        (lI σ x0 (mw (x4 + 2))).bind fun v199 =>
        (lI σ x0 (mw (x4 + 3))).bind fun v200 =>
        (D_L_pinned x1 v198 v199 v200 x3 σ).bind fun r201 =>
        (lI r201.2 x0 (mw (x4 + 1))).bind fun v202 =>
        (lI r201.2 x0 (mw (x4 + 2))).bind fun v203 =>
        (lI r201.2 x0 (mw (x4 + 3))).bind fun v204 =>
        (tgO r201.2 x2 8).bind fun _ =>
        (D_X9_pinned x2 v202 v203 v204 r201.2).bind fun r205 =>
        (tgO r205.2 x2 8).bind fun _ =>
        (D_X9_thrown x2 r205.2).bind fun r206 =>
        if r206 = r201.1 then
          if r201.1 ≠ 0 then
            D_L_law_1542 (D_L_law_23 f) x0 x1 x2 x3 x4 r205.2
          else
            (lL r205.2 x3 0).bind fun v207 =>
            if (mlcmp v207 (mi2l r205.1)) = 0 then
              D_L_law_1542 (D_L_law_23 f) x0 x1 x2 x3 x4 r205.2
            else
              (bO 0).bind fun v208 =>
              some (Sum.inr (v208, r205.2))
        else
          (bO 0).bind fun v209 =>
          some (Sum.inr (v209, r205.2))
      else
      if (mand v2 31) = 23 then
        (lI σ x0 (mw (x4 + 1))).bind fun v210 =>
        (D_L_doomed x1 v210 x3 σ).bind fun r211 =>
        (lI r211.2 x0 (mw (x4 + 1))).bind fun v212 =>
        (tgO r211.2 x2 8).bind fun _ =>
        (D_X9_doomed x2 v212 r211.2).bind fun r213 =>
        (tgO r213.2 x2 8).bind fun _ =>
        (D_X9_thrown x2 r213.2).bind fun r214 =>
        if r214 = r211.1 then
          if r211.1 ≠ 0 then
            D_L_law_1598 (D_L_law_23 f) x0 x1 x2 x3 x4 r213.2
          else
            (lL r213.2 x3 0).bind fun v215 =>
            if (mlcmp v215 (mi2l r213.1)) = 0 then
              D_L_law_1598 (D_L_law_23 f) x0 x1 x2 x3 x4 r213.2
            else
              (bO 0).bind fun v216 =>
              some (Sum.inr (v216, r213.2))
        else
          (bO 0).bind fun v217 =>
          some (Sum.inr (v217, r213.2))
      else
      if (mand v2 31) = 24 then
        (lI σ x0 (mw (x4 + 1))).bind fun v218 =>
        (lI σ x0 (mw (x4 + 2))).bind fun v219 =>
        (D_L_phase x1 v218 v219 x3 σ).bind fun r220 =>
        (lI r220.2 x0 (mw (x4 + 1))).bind fun v221 =>
        (lI r220.2 x0 (mw (x4 + 2))).bind fun v222 =>
        (tgO r220.2 x2 8).bind fun _ =>
        (D_X9_phase x2 v221 v222 r220.2).bind fun r223 =>
        (tgO r223.2 x2 8).bind fun _ =>
        (D_X9_thrown x2 r223.2).bind fun r224 =>
        if r224 = r220.1 then
          if r220.1 ≠ 0 then
            D_L_law_1666 (D_L_law_23 f) x0 x1 x2 x3 x4 r223.2
          else
            (lL r223.2 x3 0).bind fun v225 =>
            if (mlcmp v225 (mi2l r223.1)) = 0 then
              D_L_law_1666 (D_L_law_23 f) x0 x1 x2 x3 x4 r223.2
            else
              (bO 0).bind fun v226 =>
              some (Sum.inr (v226, r223.2))
        else
          (bO 0).bind fun v227 =>
          some (Sum.inr (v227, r223.2))
      else
      if (mand v2 31) = 25 then
        (lI σ x0 (mw (x4 + 1))).bind fun v228 =>
        (lI σ x0 (mw (x4 + 2))).bind fun v229 =>
        (D_L_member x1 v228 v229 x3 σ).bind fun r230 =>
        (lI r230.2 x0 (mw (x4 + 1))).bind fun v231 =>
        (lI r230.2 x0 (mw (x4 + 2))).bind fun v232 =>
        (tgO r230.2 x2 8).bind fun _ =>
        (D_X9_member x2 v231 v232 r230.2).bind fun r233 =>
        (tgO r233.2 x2 8).bind fun _ =>
        (D_X9_thrown x2 r233.2).bind fun r234 =>
        if r234 = r230.1 then
          if r230.1 ≠ 0 then
            D_L_law_1734 (D_L_law_23 f) x0 x1 x2 x3 x4 r233.2
          else
            (lL r233.2 x3 0).bind fun v235 =>
            if (mlcmp v235 (mi2l r233.1)) = 0 then
              D_L_law_1734 (D_L_law_23 f) x0 x1 x2 x3 x4 r233.2
            else
              (bO 0).bind fun v236 =>
              some (Sum.inr (v236, r233.2))
        else
          (bO 0).bind fun v237 =>
          some (Sum.inr (v237, r233.2))
      else
      if (mand v2 31) = 26 then
        (lI σ x0 (mw (x4 + 1))).bind fun v238 =>
        (D_L_trial x1 v238 x3 σ).bind fun r239 =>
        (lI r239.2 x0 (mw (x4 + 1))).bind fun v240 =>
        (tgO r239.2 x2 8).bind fun _ =>
        (D_X9_trial x2 v240 r239.2).bind fun r241 =>
        (tgO r241.2 x2 8).bind fun _ =>
        (D_X9_thrown x2 r241.2).bind fun r242 =>
        if r242 = r239.1 then
          if r239.1 ≠ 0 then
            D_L_law_1790 (D_L_law_23 f) x0 x1 x2 x3 x4 r241.2
          else
            (lL r241.2 x3 0).bind fun v243 =>
            if (mlcmp v243 (mi2l r241.1)) = 0 then
              D_L_law_1790 (D_L_law_23 f) x0 x1 x2 x3 x4 r241.2
            else
              (bO 0).bind fun v244 =>
              some (Sum.inr (v244, r241.2))
        else
          (bO 0).bind fun v245 =>
          some (Sum.inr (v245, r241.2))
      else
      if (mand v2 31) = 27 then
        (lI σ x0 (mw (x4 + 1))).bind fun v246 =>
        (D_L_tried x1 v246 x3 σ).bind fun r247 =>
        (lI r247.2 x0 (mw (x4 + 1))).bind fun v248 =>
        (tgO r247.2 x2 8).bind fun _ =>
        (D_X9_tried x2 v248 r247.2).bind fun r249 =>
        (tgO r249.2 x2 8).bind fun _ =>
        (D_X9_thrown x2 r249.2).bind fun r250 =>
        if r250 = r247.1 then
          if r247.1 ≠ 0 then
            D_L_law_1846 (D_L_law_23 f) x0 x1 x2 x3 x4 r249.2
          else
            (lL r249.2 x3 0).bind fun v251 =>
            if (mlcmp v251 (mi2l r249.1)) = 0 then
              D_L_law_1846 (D_L_law_23 f) x0 x1 x2 x3 x4 r249.2
            else
              (bO 0).bind fun v252 =>
              some (Sum.inr (v252, r249.2))
        else
          (bO 0).bind fun v253 =>
          some (Sum.inr (v253, r249.2))
      else
      if (mand v2 31) = 28 then
        (tgO σ x1 7).bind fun _ =>
        (D_X8_loosened x1 σ).bind fun r254 =>
        (tgO r254.2 x2 8).bind fun _ =>
        (D_X9_loosened x2 r254.2).bind fun r255 =>
        if r254.1 = r255.1 then
          D_L_law_1914 (D_L_law_23 f) x0 x1 x2 x3 x4 r255.2
        else
          (bO 0).bind fun v256 =>
          some (Sum.inr (v256, r255.2))
      else
      if (mand v2 31) = 29 then
        (tgO σ x1 7).bind fun _ =>
        (D_X8_shifted x1 σ).bind fun r257 =>
        (tgO r257.2 x2 8).bind fun _ =>
        (D_X9_shifted x2 r257.2).bind fun r258 =>
        if r257.1 = r258.1 then
          D_L_law_1914 (D_L_law_23 f) x0 x1 x2 x3 x4 r258.2
        else
          (bO 0).bind fun v259 =>
          some (Sum.inr (v259, r258.2))
      else
      if (mand v2 31) = 30 then
        (tgO σ x1 7).bind fun _ =>
        (D_X8_print x1 σ).bind fun r260 =>
        (tgO σ x2 8).bind fun _ =>
        (D_X9_print x2 σ).bind fun r261 =>
        if (mlcmp r260 r261.1) = 0 then
          D_L_law_1914 (D_L_law_23 f) x0 x1 x2 x3 x4 r261.2
        else
          (bO 0).bind fun v262 =>
          some (Sum.inr (v262, r261.2))
      else
      if (mand v2 31) = 31 then
        (lI σ x0 (mw (x4 + 1))).bind fun v263 =>
        (tgO σ x1 7).bind fun _ =>
        (D_X8_status x1 v263 σ).bind fun r264 =>
        (lI σ x0 (mw (x4 + 1))).bind fun v265 =>
        (tgO σ x2 8).bind fun _ =>
        (D_X9_status x2 v265 σ).bind fun r266 =>
        if r264 = r266.1 then
          D_L_law_1914 (D_L_law_23 f) x0 x1 x2 x3 x4 r266.2
        else
          (bO 0).bind fun v267 =>
          some (Sum.inr (v267, r266.2))
      else
        D_L_law_1914 (D_L_law_23 f) x0 x1 x2 x3 x4 σ
set_option maxRecDepth 100000 in
set_option maxHeartbeats 4000000 in
theorem lk_L_law_23 {G : mG} (hnc : ∀ q ∈ mNcs, va_Nc q.1 q.2 G.1) (f : Nat) : ∀ {x0 : Nat} {x1 : Nat} {x2 : Nat} {x3 : Nat} {x4 : Int} {σ : mS} {R : (mS ⊕ (Int × mS))}, D_L_law_23 f x0 x1 x2 x3 x4 σ = some R → ∀ {r : mX} {τ : mS}, (∀ z, R = (Sum.inl z) → Ev G M_L_law 1920 [] [] z r τ) ∧ (∀ z, R = (Sum.inr z) → r = .inl (some (vi z.1)) ∧ τ = z.2) → Ev G M_L_law 23 [(0, vr x0), (1, vr x1), (2, vr x2), (3, vr x3), (4, vi x4)] [] σ r τ := by
  induction f with
  | zero =>
    intros
    rename_i hD _ _ _
    cases hD
  | succ f ih =>
    intro x0 x1 x2 x3 x4 σ R hD r τ hk
    have hrec := @ih
    rw [D_L_law_23] at hD
    refine ev_iload dL_law_23 4 rfl ?_
    refine ev_aload_n dL_law_25 0 rfl rfl ?_
    obtain ⟨v1, g, hD⟩ := bd hD
    refine ew_alen dL_law_26 g ?_
    refine ev_bp dL_law_27 rfl ?_
    refine ev_isub dL_law_29 ?_
    by_cases c : (mw (v1 - 6)) < x4
    · rw [if_pos c] at hD
      refine ev_icmp_gt_t (tgt := 1920) dL_law_30 (by decide) c ?_
      cases hD
      refine Ev.pick [] rfl ?_
      exact hk.1 _ rfl
    · rw [if_neg c] at hD
      refine ev_icmp_gt_f 1920 dL_law_30 (by decide) c ?_
      refine ev_aload_n dL_law_33 0 rfl rfl ?_
      refine ev_iload dL_law_34 4 rfl ?_
      obtain ⟨v2, g, hD⟩ := bd hD
      refine ew_iald dL_law_36 g ?_
      refine ev_bp dL_law_37 rfl ?_
      refine ev_iand dL_law_39 ?_
      by_cases c0 : (mand v2 31) = 0
      · rw [if_pos c0] at hD
        refine ev_tableIn (off := 144) (tgt := 184) dL_law_40 (by omega) (by omega) (by rw [c0]; rfl) (by decide) ?_
        refine ev_aload_n dL_law_184 1 rfl rfl ?_
        refine ev_aload_n dL_law_185 0 rfl rfl ?_
        refine ev_iload dL_law_186 4 rfl ?_
        refine ev_iconst dL_law_188 (mi_c rfl) ?_
        refine ev_iadd dL_law_189 ?_
        obtain ⟨v3, g, hD⟩ := bd hD
        refine ew_iald dL_law_190 g ?_
        refine ev_aload_n dL_law_191 0 rfl rfl ?_
        refine ev_iload dL_law_192 4 rfl ?_
        refine ev_iconst dL_law_194 (mi_c rfl) ?_
        refine ev_iadd dL_law_195 ?_
        obtain ⟨v4, g, hD⟩ := bd hD
        refine ew_iald dL_law_196 g ?_
        refine ev_aload_n dL_law_197 0 rfl rfl ?_
        refine ev_iload dL_law_198 4 rfl ?_
        refine ev_iconst dL_law_200 (mi_c rfl) ?_
        refine ev_iadd dL_law_201 ?_
        obtain ⟨v5, g, hD⟩ := bd hD
        refine ew_iald dL_law_202 g ?_
        refine ev_aload_n dL_law_203 0 rfl rfl ?_
        refine ev_iload dL_law_204 4 rfl ?_
        refine ev_iconst dL_law_206 (mi_c rfl) ?_
        refine ev_iadd dL_law_207 ?_
        obtain ⟨v6, g, hD⟩ := bd hD
        refine ew_iald dL_law_208 g ?_
        refine ev_aload_n dL_law_209 0 rfl rfl ?_
        refine ev_iload dL_law_210 4 rfl ?_
        refine ev_iconst dL_law_212 (mi_c rfl) ?_
        refine ev_iadd dL_law_213 ?_
        obtain ⟨v7, g, hD⟩ := bd hD
        refine ew_iald dL_law_214 g ?_
        obtain ⟨_, g0, hD⟩ := bd hD
        obtain ⟨r8, g, hD⟩ := bd hD
        refine ew_callVv (as := [vi v3, vi v4, vi v5, vi v6, vi v7]) (a := x1) (rest := []) dL_law_215 v_X8_feed w_627 rfl (Nat.le_of_ble_eq_true rfl) rfl rfl g0 (Nat.le_of_ble_eq_true rfl) (Nat.le_of_ble_eq_true rfl) (ct_X8_feed g) ?_
        refine ev_aload_n dL_law_218 2 rfl rfl ?_
        refine ev_aload_n dL_law_219 0 rfl rfl ?_
        refine ev_iload dL_law_220 4 rfl ?_
        refine ev_iconst dL_law_222 (mi_c rfl) ?_
        refine ev_iadd dL_law_223 ?_
        obtain ⟨v9, g, hD⟩ := bd hD
        refine ew_iald dL_law_224 g ?_
        refine ev_aload_n dL_law_225 0 rfl rfl ?_
        refine ev_iload dL_law_226 4 rfl ?_
        refine ev_iconst dL_law_228 (mi_c rfl) ?_
        refine ev_iadd dL_law_229 ?_
        obtain ⟨v10, g, hD⟩ := bd hD
        refine ew_iald dL_law_230 g ?_
        refine ev_aload_n dL_law_231 0 rfl rfl ?_
        refine ev_iload dL_law_232 4 rfl ?_
        refine ev_iconst dL_law_234 (mi_c rfl) ?_
        refine ev_iadd dL_law_235 ?_
        obtain ⟨v11, g, hD⟩ := bd hD
        refine ew_iald dL_law_236 g ?_
        refine ev_aload_n dL_law_237 0 rfl rfl ?_
        refine ev_iload dL_law_238 4 rfl ?_
        refine ev_iconst dL_law_240 (mi_c rfl) ?_
        refine ev_iadd dL_law_241 ?_
        obtain ⟨v12, g, hD⟩ := bd hD
        refine ew_iald dL_law_242 g ?_
        refine ev_aload_n dL_law_243 0 rfl rfl ?_
        refine ev_iload dL_law_244 4 rfl ?_
        refine ev_iconst dL_law_246 (mi_c rfl) ?_
        refine ev_iadd dL_law_247 ?_
        obtain ⟨v13, g, hD⟩ := bd hD
        refine ew_iald dL_law_248 g ?_
        obtain ⟨_, g0, hD⟩ := bd hD
        obtain ⟨r14, g, hD⟩ := bd hD
        refine ew_callVv (as := [vi v9, vi v10, vi v11, vi v12, vi v13]) (a := x2) (rest := [vi r8.1]) dL_law_249 v_X9_feed w_1426 rfl (Nat.le_of_ble_eq_true rfl) rfl rfl g0 (Nat.le_of_ble_eq_true rfl) (Nat.le_of_ble_eq_true rfl) (ct_X9_feed g) ?_
        by_cases c : r8.1 = r14.1
        · rw [if_pos c] at hD
          refine ev_icmp_eq_t (tgt := 1914) dL_law_252 (by decide) c ?_
          exact lk_L_law_1914 hnc hD hrec hk
        · rw [if_neg c] at hD
          refine ev_icmp_eq_f 1914 dL_law_252 (by decide) c ?_
          refine ev_iconst dL_law_255 (mi_c rfl) ?_
          obtain ⟨v15, gb, hD⟩ := bd hD
          cases hD
          obtain ⟨rfl, rfl⟩ := hk.2 _ rfl
          exact ew_retb dL_law_256 rfl gb
      rw [if_neg c0] at hD
      by_cases c1 : (mand v2 31) = 1
      · rw [if_pos c1] at hD
        refine ev_tableIn (off := 217) (tgt := 257) dL_law_40 (by omega) (by omega) (by rw [c1]; rfl) (by decide) ?_
        refine ev_aload_n dL_law_257 1 rfl rfl ?_
        refine ev_aload_n dL_law_258 0 rfl rfl ?_
        refine ev_iload dL_law_259 4 rfl ?_
        refine ev_iconst dL_law_261 (mi_c rfl) ?_
        refine ev_iadd dL_law_262 ?_
        obtain ⟨v16, g, hD⟩ := bd hD
        refine ew_iald dL_law_263 g ?_
        refine ev_aload_n dL_law_264 3 rfl rfl ?_
        obtain ⟨r17, g, hD⟩ := bd hD
        refine ew_callSHv (as := [vr x1, vi v16, vr x3]) (rest := []) dL_law_265 v_L_text w_706 rfl (Nat.le_of_ble_eq_true rfl) (Nat.le_of_ble_eq_true rfl) (Nat.le_of_ble_eq_true rfl) (ct_L_text hnc g) ?_
        refine ev_istore dL_law_268 (Nat.le_of_ble_eq_true rfl) rfl ?_
        refine ev_aload_n dL_law_270 3 rfl rfl ?_
        refine ev_aload_n dL_law_271 1 rfl rfl ?_
        refine ev_iload dL_law_272 5 rfl ?_
        refine ev_iconst dL_law_274 (mi_c rfl) ?_
        refine ev_iadd dL_law_275 ?_
        obtain ⟨v18, g, hD⟩ := bd hD
        refine ew_iald dL_law_276 g ?_
        obtain ⟨_, g0, hD⟩ := bd hD
        obtain ⟨r19, g, hD⟩ := bd hD
        refine ew_callVv (as := [vi v18]) (a := x2) (rest := []) dL_law_277 v_X9_text w_1434 rfl (Nat.le_of_ble_eq_true rfl) rfl rfl g0 (Nat.le_of_ble_eq_true rfl) (Nat.le_of_ble_eq_true rfl) (ct_X9_text g) ?_
        refine ev_istore dL_law_280 (Nat.le_of_ble_eq_true rfl) rfl ?_
        refine ev_aload_n dL_law_282 4 rfl rfl ?_
        obtain ⟨_, g0, hD⟩ := bd hD
        obtain ⟨r20, g, hD⟩ := bd hD
        refine ew_callVv (as := []) (a := x2) (rest := []) dL_law_283 v_X9_thrown w_1253 rfl (Nat.le_of_ble_eq_true rfl) rfl rfl g0 (Nat.le_of_ble_eq_true rfl) (Nat.le_of_ble_eq_true rfl) (ct_X9_thrown g) ?_
        refine ev_iload dL_law_286 1 rfl ?_
        by_cases c : r20 = r17.1
        · rw [if_pos c] at hD
          refine ev_icmp_eq_t (tgt := 293) dL_law_288 (by decide) c ?_
          refine ev_iload dL_law_293 1 rfl ?_
          by_cases c : r17.1 ≠ 0
          · rw [if_pos c] at hD
            refine ev_if_ne_t (tgt := 310) dL_law_295 (by decide) c ?_
            refine Ev.pick [2, 3, 4, 5, 6] rfl ?_
            exact lk_L_law_310 hnc hD hrec hk
          · rw [if_neg c] at hD
            refine ev_if_ne_f 310 dL_law_295 (by decide) c ?_
            refine ev_aload_n dL_law_298 5 rfl rfl ?_
            refine ev_iconst dL_law_299 (mi_c rfl) ?_
            obtain ⟨v21, g, hD⟩ := bd hD
            refine ew_lald dL_law_300 g ?_
            refine ev_iload dL_law_301 0 rfl ?_
            refine ev_i2l dL_law_303 ?_
            refine ev_lcmp dL_law_304 ?_
            by_cases c : (mlcmp v21 (mi2l r19.1)) = 0
            · rw [if_pos c] at hD
              refine ev_if_eq_t (tgt := 310) dL_law_305 (by decide) c ?_
              refine Ev.pick [2, 3, 4, 5, 6] rfl ?_
              exact lk_L_law_310 hnc hD hrec hk
            · rw [if_neg c] at hD
              refine ev_if_eq_f 310 dL_law_305 (by decide) c ?_
              refine ev_iconst dL_law_308 (mi_c rfl) ?_
              obtain ⟨v22, gb, hD⟩ := bd hD
              cases hD
              obtain ⟨rfl, rfl⟩ := hk.2 _ rfl
              exact ew_retb dL_law_309 rfl gb
        · rw [if_neg c] at hD
          refine ev_icmp_eq_f 293 dL_law_288 (by decide) c ?_
          refine ev_iconst dL_law_291 (mi_c rfl) ?_
          obtain ⟨v23, gb, hD⟩ := bd hD
          cases hD
          obtain ⟨rfl, rfl⟩ := hk.2 _ rfl
          exact ew_retb dL_law_292 rfl gb
      rw [if_neg c1] at hD
      by_cases c2 : (mand v2 31) = 2
      · rw [if_pos c2] at hD
        refine ev_tableIn (off := 273) (tgt := 313) dL_law_40 (by omega) (by omega) (by rw [c2]; rfl) (by decide) ?_
        refine ev_aload_n dL_law_313 1 rfl rfl ?_
        obtain ⟨_, g0, hD⟩ := bd hD
        obtain ⟨r24, g, hD⟩ := bd hD
        refine ew_callVv (as := []) (a := x1) (rest := []) dL_law_314 v_X8_fault w_635 rfl (Nat.le_of_ble_eq_true rfl) rfl rfl g0 (Nat.le_of_ble_eq_true rfl) (Nat.le_of_ble_eq_true rfl) (ct_X8_fault g) ?_
        refine ev_aload_n dL_law_317 2 rfl rfl ?_
        obtain ⟨_, g0, hD⟩ := bd hD
        obtain ⟨r25, g, hD⟩ := bd hD
        refine ew_callVv (as := []) (a := x2) (rest := [vi r24]) dL_law_318 v_X9_fault w_1577 rfl (Nat.le_of_ble_eq_true rfl) rfl rfl g0 (Nat.le_of_ble_eq_true rfl) (Nat.le_of_ble_eq_true rfl) (ct_X9_fault g) ?_
        by_cases c : r24 = r25.1
        · rw [if_pos c] at hD
          refine ev_icmp_eq_t (tgt := 1914) dL_law_321 (by decide) c ?_
          exact lk_L_law_1914 hnc hD hrec hk
        · rw [if_neg c] at hD
          refine ev_icmp_eq_f 1914 dL_law_321 (by decide) c ?_
          refine ev_iconst dL_law_324 (mi_c rfl) ?_
          obtain ⟨v26, gb, hD⟩ := bd hD
          cases hD
          obtain ⟨rfl, rfl⟩ := hk.2 _ rfl
          exact ew_retb dL_law_325 rfl gb
      rw [if_neg c2] at hD
      by_cases c3 : (mand v2 31) = 3
      · rw [if_pos c3] at hD
        refine ev_tableIn (off := 286) (tgt := 326) dL_law_40 (by omega) (by omega) (by rw [c3]; rfl) (by decide) ?_
        refine ev_aload_n dL_law_326 1 rfl rfl ?_
        refine ev_aload_n dL_law_327 0 rfl rfl ?_
        refine ev_iload dL_law_328 4 rfl ?_
        refine ev_iconst dL_law_330 (mi_c rfl) ?_
        refine ev_iadd dL_law_331 ?_
        obtain ⟨v27, g, hD⟩ := bd hD
        refine ew_iald dL_law_332 g ?_
        refine ev_aload_n dL_law_333 0 rfl rfl ?_
        refine ev_iload dL_law_334 4 rfl ?_
        refine ev_iconst dL_law_336 (mi_c rfl) ?_
        refine ev_iadd dL_law_337 ?_
        obtain ⟨v28, g, hD⟩ := bd hD
        refine ew_iald dL_law_338 g ?_
        refine ev_aload_n dL_law_339 3 rfl rfl ?_
        obtain ⟨r29, g, hD⟩ := bd hD
        refine ew_callSHv (as := [vr x1, vi v27, vi v28, vr x3]) (rest := []) dL_law_340 v_L_set w_949 rfl (Nat.le_of_ble_eq_true rfl) (Nat.le_of_ble_eq_true rfl) (Nat.le_of_ble_eq_true rfl) (ct_L_set hnc g) ?_
        refine ev_istore dL_law_343 (Nat.le_of_ble_eq_true rfl) rfl ?_
        refine ev_aload_n dL_law_345 3 rfl rfl ?_
        refine ev_aload_n dL_law_346 1 rfl rfl ?_
        refine ev_iload dL_law_347 5 rfl ?_
        refine ev_iconst dL_law_349 (mi_c rfl) ?_
        refine ev_iadd dL_law_350 ?_
        obtain ⟨v30, g, hD⟩ := bd hD
        refine ew_iald dL_law_351 g ?_
        refine ev_aload_n dL_law_352 1 rfl rfl ?_
        refine ev_iload dL_law_353 5 rfl ?_
        refine ev_iconst dL_law_355 (mi_c rfl) ?_
        refine ev_iadd dL_law_356 ?_
        obtain ⟨v31, g, hD⟩ := bd hD
        refine ew_iald dL_law_357 g ?_
        obtain ⟨_, g0, hD⟩ := bd hD
        obtain ⟨r32, g, hD⟩ := bd hD
        refine ew_callVv (as := [vi v30, vi v31]) (a := x2) (rest := []) dL_law_358 v_X9_set w_1581 rfl (Nat.le_of_ble_eq_true rfl) rfl rfl g0 (Nat.le_of_ble_eq_true rfl) (Nat.le_of_ble_eq_true rfl) (ct_X9_set g) ?_
        refine ev_istore dL_law_361 (Nat.le_of_ble_eq_true rfl) rfl ?_
        refine ev_aload_n dL_law_363 4 rfl rfl ?_
        obtain ⟨_, g0, hD⟩ := bd hD
        obtain ⟨r33, g, hD⟩ := bd hD
        refine ew_callVv (as := []) (a := x2) (rest := []) dL_law_364 v_X9_thrown w_1253 rfl (Nat.le_of_ble_eq_true rfl) rfl rfl g0 (Nat.le_of_ble_eq_true rfl) (Nat.le_of_ble_eq_true rfl) (ct_X9_thrown g) ?_
        refine ev_iload dL_law_367 1 rfl ?_
        by_cases c : r33 = r29.1
        · rw [if_pos c] at hD
          refine ev_icmp_eq_t (tgt := 374) dL_law_369 (by decide) c ?_
          refine ev_iload dL_law_374 1 rfl ?_
          by_cases c : r29.1 ≠ 0
          · rw [if_pos c] at hD
            refine ev_if_ne_t (tgt := 391) dL_law_376 (by decide) c ?_
            refine Ev.pick [2, 3, 4, 5, 6] rfl ?_
            exact lk_L_law_391 hnc hD hrec hk
          · rw [if_neg c] at hD
            refine ev_if_ne_f 391 dL_law_376 (by decide) c ?_
            refine ev_aload_n dL_law_379 5 rfl rfl ?_
            refine ev_iconst dL_law_380 (mi_c rfl) ?_
            obtain ⟨v34, g, hD⟩ := bd hD
            refine ew_lald dL_law_381 g ?_
            refine ev_iload dL_law_382 0 rfl ?_
            refine ev_i2l dL_law_384 ?_
            refine ev_lcmp dL_law_385 ?_
            by_cases c : (mlcmp v34 (mi2l r32.1)) = 0
            · rw [if_pos c] at hD
              refine ev_if_eq_t (tgt := 391) dL_law_386 (by decide) c ?_
              refine Ev.pick [2, 3, 4, 5, 6] rfl ?_
              exact lk_L_law_391 hnc hD hrec hk
            · rw [if_neg c] at hD
              refine ev_if_eq_f 391 dL_law_386 (by decide) c ?_
              refine ev_iconst dL_law_389 (mi_c rfl) ?_
              obtain ⟨v35, gb, hD⟩ := bd hD
              cases hD
              obtain ⟨rfl, rfl⟩ := hk.2 _ rfl
              exact ew_retb dL_law_390 rfl gb
        · rw [if_neg c] at hD
          refine ev_icmp_eq_f 374 dL_law_369 (by decide) c ?_
          refine ev_iconst dL_law_372 (mi_c rfl) ?_
          obtain ⟨v36, gb, hD⟩ := bd hD
          cases hD
          obtain ⟨rfl, rfl⟩ := hk.2 _ rfl
          exact ew_retb dL_law_373 rfl gb
      rw [if_neg c3] at hD
      by_cases c4 : (mand v2 31) = 4
      · rw [if_pos c4] at hD
        refine ev_tableIn (off := 354) (tgt := 394) dL_law_40 (by omega) (by omega) (by rw [c4]; rfl) (by decide) ?_
        refine ev_aload_n dL_law_394 1 rfl rfl ?_
        refine ev_aload_n dL_law_395 0 rfl rfl ?_
        refine ev_iload dL_law_396 4 rfl ?_
        refine ev_iconst dL_law_398 (mi_c rfl) ?_
        refine ev_iadd dL_law_399 ?_
        obtain ⟨v37, g, hD⟩ := bd hD
        refine ew_iald dL_law_400 g ?_
        refine ev_aload_n dL_law_401 0 rfl rfl ?_
        refine ev_iload dL_law_402 4 rfl ?_
        refine ev_iconst dL_law_404 (mi_c rfl) ?_
        refine ev_iadd dL_law_405 ?_
        obtain ⟨v38, g, hD⟩ := bd hD
        refine ew_iald dL_law_406 g ?_
        refine ev_aload_n dL_law_407 0 rfl rfl ?_
        refine ev_iload dL_law_408 4 rfl ?_
        refine ev_iconst dL_law_410 (mi_c rfl) ?_
        refine ev_iadd dL_law_411 ?_
        obtain ⟨v39, g, hD⟩ := bd hD
        refine ew_iald dL_law_412 g ?_
        refine ev_aload_n dL_law_413 3 rfl rfl ?_
        obtain ⟨r40, g, hD⟩ := bd hD
        refine ew_callSHv (as := [vr x1, vi v37, vi v38, vi v39, vr x3]) (rest := []) dL_law_414 v_L_redate w_960 rfl (Nat.le_of_ble_eq_true rfl) (Nat.le_of_ble_eq_true rfl) (Nat.le_of_ble_eq_true rfl) (ct_L_redate hnc g) ?_
        refine ev_istore dL_law_417 (Nat.le_of_ble_eq_true rfl) rfl ?_
        refine ev_aload_n dL_law_419 3 rfl rfl ?_
        refine ev_aload_n dL_law_420 1 rfl rfl ?_
        refine ev_iload dL_law_421 5 rfl ?_
        refine ev_iconst dL_law_423 (mi_c rfl) ?_
        refine ev_iadd dL_law_424 ?_
        obtain ⟨v41, g, hD⟩ := bd hD
        refine ew_iald dL_law_425 g ?_
        refine ev_aload_n dL_law_426 1 rfl rfl ?_
        refine ev_iload dL_law_427 5 rfl ?_
        refine ev_iconst dL_law_429 (mi_c rfl) ?_
        refine ev_iadd dL_law_430 ?_
        obtain ⟨v42, g, hD⟩ := bd hD
        refine ew_iald dL_law_431 g ?_
        refine ev_aload_n dL_law_432 1 rfl rfl ?_
        refine ev_iload dL_law_433 5 rfl ?_
        refine ev_iconst dL_law_435 (mi_c rfl) ?_
        refine ev_iadd dL_law_436 ?_
        obtain ⟨v43, g, hD⟩ := bd hD
        refine ew_iald dL_law_437 g ?_
        obtain ⟨_, g0, hD⟩ := bd hD
        obtain ⟨r44, g, hD⟩ := bd hD
        refine ew_callVv (as := [vi v41, vi v42, vi v43]) (a := x2) (rest := []) dL_law_438 v_X9_redate w_1589 rfl (Nat.le_of_ble_eq_true rfl) rfl rfl g0 (Nat.le_of_ble_eq_true rfl) (Nat.le_of_ble_eq_true rfl) (ct_X9_redate g) ?_
        refine ev_istore dL_law_441 (Nat.le_of_ble_eq_true rfl) rfl ?_
        refine ev_aload_n dL_law_443 4 rfl rfl ?_
        obtain ⟨_, g0, hD⟩ := bd hD
        obtain ⟨r45, g, hD⟩ := bd hD
        refine ew_callVv (as := []) (a := x2) (rest := []) dL_law_444 v_X9_thrown w_1253 rfl (Nat.le_of_ble_eq_true rfl) rfl rfl g0 (Nat.le_of_ble_eq_true rfl) (Nat.le_of_ble_eq_true rfl) (ct_X9_thrown g) ?_
        refine ev_iload dL_law_447 1 rfl ?_
        by_cases c : r45 = r40.1
        · rw [if_pos c] at hD
          refine ev_icmp_eq_t (tgt := 454) dL_law_449 (by decide) c ?_
          refine ev_iload dL_law_454 1 rfl ?_
          by_cases c : r40.1 ≠ 0
          · rw [if_pos c] at hD
            refine ev_if_ne_t (tgt := 471) dL_law_456 (by decide) c ?_
            refine Ev.pick [2, 3, 4, 5, 6] rfl ?_
            exact lk_L_law_471 hnc hD hrec hk
          · rw [if_neg c] at hD
            refine ev_if_ne_f 471 dL_law_456 (by decide) c ?_
            refine ev_aload_n dL_law_459 5 rfl rfl ?_
            refine ev_iconst dL_law_460 (mi_c rfl) ?_
            obtain ⟨v46, g, hD⟩ := bd hD
            refine ew_lald dL_law_461 g ?_
            refine ev_iload dL_law_462 0 rfl ?_
            refine ev_i2l dL_law_464 ?_
            refine ev_lcmp dL_law_465 ?_
            by_cases c : (mlcmp v46 (mi2l r44.1)) = 0
            · rw [if_pos c] at hD
              refine ev_if_eq_t (tgt := 471) dL_law_466 (by decide) c ?_
              refine Ev.pick [2, 3, 4, 5, 6] rfl ?_
              exact lk_L_law_471 hnc hD hrec hk
            · rw [if_neg c] at hD
              refine ev_if_eq_f 471 dL_law_466 (by decide) c ?_
              refine ev_iconst dL_law_469 (mi_c rfl) ?_
              obtain ⟨v47, gb, hD⟩ := bd hD
              cases hD
              obtain ⟨rfl, rfl⟩ := hk.2 _ rfl
              exact ew_retb dL_law_470 rfl gb
        · rw [if_neg c] at hD
          refine ev_icmp_eq_f 454 dL_law_449 (by decide) c ?_
          refine ev_iconst dL_law_452 (mi_c rfl) ?_
          obtain ⟨v48, gb, hD⟩ := bd hD
          cases hD
          obtain ⟨rfl, rfl⟩ := hk.2 _ rfl
          exact ew_retb dL_law_453 rfl gb
      rw [if_neg c4] at hD
      by_cases c5 : (mand v2 31) = 5
      · rw [if_pos c5] at hD
        refine ev_tableIn (off := 434) (tgt := 474) dL_law_40 (by omega) (by omega) (by rw [c5]; rfl) (by decide) ?_
        refine ev_aload_n dL_law_474 1 rfl rfl ?_
        refine ev_aload_n dL_law_475 0 rfl rfl ?_
        refine ev_iload dL_law_476 4 rfl ?_
        refine ev_iconst dL_law_478 (mi_c rfl) ?_
        refine ev_iadd dL_law_479 ?_
        obtain ⟨v49, g, hD⟩ := bd hD
        refine ew_iald dL_law_480 g ?_
        refine ev_aload_n dL_law_481 0 rfl rfl ?_
        refine ev_iload dL_law_482 4 rfl ?_
        refine ev_iconst dL_law_484 (mi_c rfl) ?_
        refine ev_iadd dL_law_485 ?_
        obtain ⟨v50, g, hD⟩ := bd hD
        refine ew_iald dL_law_486 g ?_
        refine ev_aload_n dL_law_487 0 rfl rfl ?_
        refine ev_iload dL_law_488 4 rfl ?_
        refine ev_iconst dL_law_490 (mi_c rfl) ?_
        refine ev_iadd dL_law_491 ?_
        obtain ⟨v51, g, hD⟩ := bd hD
        refine ew_iald dL_law_492 g ?_
        refine ev_aload_n dL_law_493 0 rfl rfl ?_
        refine ev_iload dL_law_494 4 rfl ?_
        refine ev_iconst dL_law_496 (mi_c rfl) ?_
        refine ev_iadd dL_law_497 ?_
        obtain ⟨v52, g, hD⟩ := bd hD
        refine ew_iald dL_law_498 g ?_
        refine ev_aload_n dL_law_499 3 rfl rfl ?_
        obtain ⟨r53, g, hD⟩ := bd hD
        refine ew_callSHv (as := [vr x1, vi v49, vi v50, vi v51, vi v52, vr x3]) (rest := []) dL_law_500 v_L_before w_991 rfl (Nat.le_of_ble_eq_true rfl) (Nat.le_of_ble_eq_true rfl) (Nat.le_of_ble_eq_true rfl) (ct_L_before hnc g) ?_
        refine ev_istore dL_law_503 (Nat.le_of_ble_eq_true rfl) rfl ?_
        refine ev_aload_n dL_law_505 3 rfl rfl ?_
        refine ev_aload_n dL_law_506 1 rfl rfl ?_
        refine ev_iload dL_law_507 5 rfl ?_
        refine ev_iconst dL_law_509 (mi_c rfl) ?_
        refine ev_iadd dL_law_510 ?_
        obtain ⟨v54, g, hD⟩ := bd hD
        refine ew_iald dL_law_511 g ?_
        refine ev_aload_n dL_law_512 1 rfl rfl ?_
        refine ev_iload dL_law_513 5 rfl ?_
        refine ev_iconst dL_law_515 (mi_c rfl) ?_
        refine ev_iadd dL_law_516 ?_
        obtain ⟨v55, g, hD⟩ := bd hD
        refine ew_iald dL_law_517 g ?_
        refine ev_aload_n dL_law_518 1 rfl rfl ?_
        refine ev_iload dL_law_519 5 rfl ?_
        refine ev_iconst dL_law_521 (mi_c rfl) ?_
        refine ev_iadd dL_law_522 ?_
        obtain ⟨v56, g, hD⟩ := bd hD
        refine ew_iald dL_law_523 g ?_
        refine ev_aload_n dL_law_524 1 rfl rfl ?_
        refine ev_iload dL_law_525 5 rfl ?_
        refine ev_iconst dL_law_527 (mi_c rfl) ?_
        refine ev_iadd dL_law_528 ?_
        obtain ⟨v57, g, hD⟩ := bd hD
        refine ew_iald dL_law_529 g ?_
        obtain ⟨_, g0, hD⟩ := bd hD
        obtain ⟨r58, g, hD⟩ := bd hD
        refine ew_callVv (as := [vi v54, vi v55, vi v56, vi v57]) (a := x2) (rest := []) dL_law_530 v_X9_before w_1601 rfl (Nat.le_of_ble_eq_true rfl) rfl rfl g0 (Nat.le_of_ble_eq_true rfl) (Nat.le_of_ble_eq_true rfl) (ct_X9_before g) ?_
        refine ev_istore dL_law_533 (Nat.le_of_ble_eq_true rfl) rfl ?_
        refine ev_aload_n dL_law_535 4 rfl rfl ?_
        obtain ⟨_, g0, hD⟩ := bd hD
        obtain ⟨r59, g, hD⟩ := bd hD
        refine ew_callVv (as := []) (a := x2) (rest := []) dL_law_536 v_X9_thrown w_1253 rfl (Nat.le_of_ble_eq_true rfl) rfl rfl g0 (Nat.le_of_ble_eq_true rfl) (Nat.le_of_ble_eq_true rfl) (ct_X9_thrown g) ?_
        refine ev_iload dL_law_539 1 rfl ?_
        by_cases c : r59 = r53.1
        · rw [if_pos c] at hD
          refine ev_icmp_eq_t (tgt := 546) dL_law_541 (by decide) c ?_
          refine ev_iload dL_law_546 1 rfl ?_
          by_cases c : r53.1 ≠ 0
          · rw [if_pos c] at hD
            refine ev_if_ne_t (tgt := 563) dL_law_548 (by decide) c ?_
            refine Ev.pick [2, 3, 4, 5, 6] rfl ?_
            exact lk_L_law_563 hnc hD hrec hk
          · rw [if_neg c] at hD
            refine ev_if_ne_f 563 dL_law_548 (by decide) c ?_
            refine ev_aload_n dL_law_551 5 rfl rfl ?_
            refine ev_iconst dL_law_552 (mi_c rfl) ?_
            obtain ⟨v60, g, hD⟩ := bd hD
            refine ew_lald dL_law_553 g ?_
            refine ev_iload dL_law_554 0 rfl ?_
            refine ev_i2l dL_law_556 ?_
            refine ev_lcmp dL_law_557 ?_
            by_cases c : (mlcmp v60 (mi2l r58.1)) = 0
            · rw [if_pos c] at hD
              refine ev_if_eq_t (tgt := 563) dL_law_558 (by decide) c ?_
              refine Ev.pick [2, 3, 4, 5, 6] rfl ?_
              exact lk_L_law_563 hnc hD hrec hk
            · rw [if_neg c] at hD
              refine ev_if_eq_f 563 dL_law_558 (by decide) c ?_
              refine ev_iconst dL_law_561 (mi_c rfl) ?_
              obtain ⟨v61, gb, hD⟩ := bd hD
              cases hD
              obtain ⟨rfl, rfl⟩ := hk.2 _ rfl
              exact ew_retb dL_law_562 rfl gb
        · rw [if_neg c] at hD
          refine ev_icmp_eq_f 546 dL_law_541 (by decide) c ?_
          refine ev_iconst dL_law_544 (mi_c rfl) ?_
          obtain ⟨v62, gb, hD⟩ := bd hD
          cases hD
          obtain ⟨rfl, rfl⟩ := hk.2 _ rfl
          exact ew_retb dL_law_545 rfl gb
      rw [if_neg c5] at hD
      by_cases c6 : (mand v2 31) = 6
      · rw [if_pos c6] at hD
        refine ev_tableIn (off := 526) (tgt := 566) dL_law_40 (by omega) (by omega) (by rw [c6]; rfl) (by decide) ?_
        refine ev_aload_n dL_law_566 1 rfl rfl ?_
        refine ev_aload_n dL_law_567 0 rfl rfl ?_
        refine ev_iload dL_law_568 4 rfl ?_
        refine ev_iconst dL_law_570 (mi_c rfl) ?_
        refine ev_iadd dL_law_571 ?_
        obtain ⟨v63, g, hD⟩ := bd hD
        refine ew_iald dL_law_572 g ?_
        refine ev_aload_n dL_law_573 0 rfl rfl ?_
        refine ev_iload dL_law_574 4 rfl ?_
        refine ev_iconst dL_law_576 (mi_c rfl) ?_
        refine ev_iadd dL_law_577 ?_
        obtain ⟨v64, g, hD⟩ := bd hD
        refine ew_iald dL_law_578 g ?_
        refine ev_aload_n dL_law_579 0 rfl rfl ?_
        refine ev_iload dL_law_580 4 rfl ?_
        refine ev_iconst dL_law_582 (mi_c rfl) ?_
        refine ev_iadd dL_law_583 ?_
        obtain ⟨v65, g, hD⟩ := bd hD
        refine ew_iald dL_law_584 g ?_
        refine ev_aload_n dL_law_585 3 rfl rfl ?_
        obtain ⟨r66, g, hD⟩ := bd hD
        refine ew_callSHv (as := [vr x1, vi v63, vi v64, vi v65, vr x3]) (rest := []) dL_law_586 v_L_bounds w_1019 rfl (Nat.le_of_ble_eq_true rfl) (Nat.le_of_ble_eq_true rfl) (Nat.le_of_ble_eq_true rfl) (ct_L_bounds hnc g) ?_
        refine ev_istore dL_law_589 (Nat.le_of_ble_eq_true rfl) rfl ?_
        refine ev_aload_n dL_law_591 3 rfl rfl ?_
        refine ev_aload_n dL_law_592 1 rfl rfl ?_
        refine ev_iload dL_law_593 5 rfl ?_
        refine ev_iconst dL_law_595 (mi_c rfl) ?_
        refine ev_iadd dL_law_596 ?_
        obtain ⟨v67, g, hD⟩ := bd hD
        refine ew_iald dL_law_597 g ?_
        refine ev_aload_n dL_law_598 1 rfl rfl ?_
        refine ev_iload dL_law_599 5 rfl ?_
        refine ev_iconst dL_law_601 (mi_c rfl) ?_
        refine ev_iadd dL_law_602 ?_
        obtain ⟨v68, g, hD⟩ := bd hD
        refine ew_iald dL_law_603 g ?_
        refine ev_aload_n dL_law_604 1 rfl rfl ?_
        refine ev_iload dL_law_605 5 rfl ?_
        refine ev_iconst dL_law_607 (mi_c rfl) ?_
        refine ev_iadd dL_law_608 ?_
        obtain ⟨v69, g, hD⟩ := bd hD
        refine ew_iald dL_law_609 g ?_
        obtain ⟨_, g0, hD⟩ := bd hD
        obtain ⟨r70, g, hD⟩ := bd hD
        refine ew_callVv (as := [vi v67, vi v68, vi v69]) (a := x2) (rest := []) dL_law_610 v_X9_bounds w_1609 rfl (Nat.le_of_ble_eq_true rfl) rfl rfl g0 (Nat.le_of_ble_eq_true rfl) (Nat.le_of_ble_eq_true rfl) (ct_X9_bounds g) ?_
        refine ev_istore dL_law_613 (Nat.le_of_ble_eq_true rfl) rfl ?_
        refine ev_aload_n dL_law_615 4 rfl rfl ?_
        obtain ⟨_, g0, hD⟩ := bd hD
        obtain ⟨r71, g, hD⟩ := bd hD
        refine ew_callVv (as := []) (a := x2) (rest := []) dL_law_616 v_X9_thrown w_1253 rfl (Nat.le_of_ble_eq_true rfl) rfl rfl g0 (Nat.le_of_ble_eq_true rfl) (Nat.le_of_ble_eq_true rfl) (ct_X9_thrown g) ?_
        refine ev_iload dL_law_619 1 rfl ?_
        by_cases c : r71 = r66.1
        · rw [if_pos c] at hD
          refine ev_icmp_eq_t (tgt := 626) dL_law_621 (by decide) c ?_
          refine ev_iload dL_law_626 1 rfl ?_
          by_cases c : r66.1 ≠ 0
          · rw [if_pos c] at hD
            refine ev_if_ne_t (tgt := 643) dL_law_628 (by decide) c ?_
            refine Ev.pick [2, 3, 4, 5, 6] rfl ?_
            exact lk_L_law_643 hnc hD hrec hk
          · rw [if_neg c] at hD
            refine ev_if_ne_f 643 dL_law_628 (by decide) c ?_
            refine ev_aload_n dL_law_631 5 rfl rfl ?_
            refine ev_iconst dL_law_632 (mi_c rfl) ?_
            obtain ⟨v72, g, hD⟩ := bd hD
            refine ew_lald dL_law_633 g ?_
            refine ev_iload dL_law_634 0 rfl ?_
            refine ev_i2l dL_law_636 ?_
            refine ev_lcmp dL_law_637 ?_
            by_cases c : (mlcmp v72 (mi2l r70.1)) = 0
            · rw [if_pos c] at hD
              refine ev_if_eq_t (tgt := 643) dL_law_638 (by decide) c ?_
              refine Ev.pick [2, 3, 4, 5, 6] rfl ?_
              exact lk_L_law_643 hnc hD hrec hk
            · rw [if_neg c] at hD
              refine ev_if_eq_f 643 dL_law_638 (by decide) c ?_
              refine ev_iconst dL_law_641 (mi_c rfl) ?_
              obtain ⟨v73, gb, hD⟩ := bd hD
              cases hD
              obtain ⟨rfl, rfl⟩ := hk.2 _ rfl
              exact ew_retb dL_law_642 rfl gb
        · rw [if_neg c] at hD
          refine ev_icmp_eq_f 626 dL_law_621 (by decide) c ?_
          refine ev_iconst dL_law_624 (mi_c rfl) ?_
          obtain ⟨v74, gb, hD⟩ := bd hD
          cases hD
          obtain ⟨rfl, rfl⟩ := hk.2 _ rfl
          exact ew_retb dL_law_625 rfl gb
      rw [if_neg c6] at hD
      by_cases c7 : (mand v2 31) = 7
      · rw [if_pos c7] at hD
        refine ev_tableIn (off := 606) (tgt := 646) dL_law_40 (by omega) (by omega) (by rw [c7]; rfl) (by decide) ?_
        refine ev_aload_n dL_law_646 1 rfl rfl ?_
        refine ev_aload_n dL_law_647 0 rfl rfl ?_
        refine ev_iload dL_law_648 4 rfl ?_
        refine ev_iconst dL_law_650 (mi_c rfl) ?_
        refine ev_iadd dL_law_651 ?_
        obtain ⟨v75, g, hD⟩ := bd hD
        refine ew_iald dL_law_652 g ?_
        refine ev_aload_n dL_law_653 3 rfl rfl ?_
        obtain ⟨r76, g, hD⟩ := bd hD
        refine ew_callSHv (as := [vr x1, vi v75, vr x3]) (rest := []) dL_law_654 v_L_drop w_1029 rfl (Nat.le_of_ble_eq_true rfl) (Nat.le_of_ble_eq_true rfl) (Nat.le_of_ble_eq_true rfl) (ct_L_drop hnc g) ?_
        refine ev_istore dL_law_657 (Nat.le_of_ble_eq_true rfl) rfl ?_
        refine ev_aload_n dL_law_659 3 rfl rfl ?_
        refine ev_aload_n dL_law_660 1 rfl rfl ?_
        refine ev_iload dL_law_661 5 rfl ?_
        refine ev_iconst dL_law_663 (mi_c rfl) ?_
        refine ev_iadd dL_law_664 ?_
        obtain ⟨v77, g, hD⟩ := bd hD
        refine ew_iald dL_law_665 g ?_
        obtain ⟨_, g0, hD⟩ := bd hD
        obtain ⟨r78, g, hD⟩ := bd hD
        refine ew_callVv (as := [vi v77]) (a := x2) (rest := []) dL_law_666 v_X9_drop w_1613 rfl (Nat.le_of_ble_eq_true rfl) rfl rfl g0 (Nat.le_of_ble_eq_true rfl) (Nat.le_of_ble_eq_true rfl) (ct_X9_drop g) ?_
        refine ev_istore dL_law_669 (Nat.le_of_ble_eq_true rfl) rfl ?_
        refine ev_aload_n dL_law_671 4 rfl rfl ?_
        obtain ⟨_, g0, hD⟩ := bd hD
        obtain ⟨r79, g, hD⟩ := bd hD
        refine ew_callVv (as := []) (a := x2) (rest := []) dL_law_672 v_X9_thrown w_1253 rfl (Nat.le_of_ble_eq_true rfl) rfl rfl g0 (Nat.le_of_ble_eq_true rfl) (Nat.le_of_ble_eq_true rfl) (ct_X9_thrown g) ?_
        refine ev_iload dL_law_675 1 rfl ?_
        by_cases c : r79 = r76.1
        · rw [if_pos c] at hD
          refine ev_icmp_eq_t (tgt := 682) dL_law_677 (by decide) c ?_
          refine ev_iload dL_law_682 1 rfl ?_
          by_cases c : r76.1 ≠ 0
          · rw [if_pos c] at hD
            refine ev_if_ne_t (tgt := 699) dL_law_684 (by decide) c ?_
            refine Ev.pick [2, 3, 4, 5, 6] rfl ?_
            exact lk_L_law_699 hnc hD hrec hk
          · rw [if_neg c] at hD
            refine ev_if_ne_f 699 dL_law_684 (by decide) c ?_
            refine ev_aload_n dL_law_687 5 rfl rfl ?_
            refine ev_iconst dL_law_688 (mi_c rfl) ?_
            obtain ⟨v80, g, hD⟩ := bd hD
            refine ew_lald dL_law_689 g ?_
            refine ev_iload dL_law_690 0 rfl ?_
            refine ev_i2l dL_law_692 ?_
            refine ev_lcmp dL_law_693 ?_
            by_cases c : (mlcmp v80 (mi2l r78.1)) = 0
            · rw [if_pos c] at hD
              refine ev_if_eq_t (tgt := 699) dL_law_694 (by decide) c ?_
              refine Ev.pick [2, 3, 4, 5, 6] rfl ?_
              exact lk_L_law_699 hnc hD hrec hk
            · rw [if_neg c] at hD
              refine ev_if_eq_f 699 dL_law_694 (by decide) c ?_
              refine ev_iconst dL_law_697 (mi_c rfl) ?_
              obtain ⟨v81, gb, hD⟩ := bd hD
              cases hD
              obtain ⟨rfl, rfl⟩ := hk.2 _ rfl
              exact ew_retb dL_law_698 rfl gb
        · rw [if_neg c] at hD
          refine ev_icmp_eq_f 682 dL_law_677 (by decide) c ?_
          refine ev_iconst dL_law_680 (mi_c rfl) ?_
          obtain ⟨v82, gb, hD⟩ := bd hD
          cases hD
          obtain ⟨rfl, rfl⟩ := hk.2 _ rfl
          exact ew_retb dL_law_681 rfl gb
      rw [if_neg c7] at hD
      by_cases c8 : (mand v2 31) = 8
      · rw [if_pos c8] at hD
        refine ev_tableIn (off := 662) (tgt := 702) dL_law_40 (by omega) (by omega) (by rw [c8]; rfl) (by decide) ?_
        refine ev_aload_n dL_law_702 1 rfl rfl ?_
        obtain ⟨_, g0, hD⟩ := bd hD
        obtain ⟨r83, g, hD⟩ := bd hD
        refine ew_callVv (as := []) (a := x1) (rest := []) dL_law_703 v_X8_undo w_639 rfl (Nat.le_of_ble_eq_true rfl) rfl rfl g0 (Nat.le_of_ble_eq_true rfl) (Nat.le_of_ble_eq_true rfl) (ct_X8_undo g) ?_
        refine ev_aload_n dL_law_706 2 rfl rfl ?_
        obtain ⟨_, g0, hD⟩ := bd hD
        obtain ⟨r84, g, hD⟩ := bd hD
        refine ew_callVv (as := []) (a := x2) (rest := [vi r83.1]) dL_law_707 v_X9_undo w_1687 rfl (Nat.le_of_ble_eq_true rfl) rfl rfl g0 (Nat.le_of_ble_eq_true rfl) (Nat.le_of_ble_eq_true rfl) (ct_X9_undo g) ?_
        by_cases c : r83.1 = r84.1
        · rw [if_pos c] at hD
          refine ev_icmp_eq_t (tgt := 1914) dL_law_710 (by decide) c ?_
          exact lk_L_law_1914 hnc hD hrec hk
        · rw [if_neg c] at hD
          refine ev_icmp_eq_f 1914 dL_law_710 (by decide) c ?_
          refine ev_iconst dL_law_713 (mi_c rfl) ?_
          obtain ⟨v85, gb, hD⟩ := bd hD
          cases hD
          obtain ⟨rfl, rfl⟩ := hk.2 _ rfl
          exact ew_retb dL_law_714 rfl gb
      rw [if_neg c8] at hD
      by_cases c9 : (mand v2 31) = 9
      · rw [if_pos c9] at hD
        refine ev_tableIn (off := 675) (tgt := 715) dL_law_40 (by omega) (by omega) (by rw [c9]; rfl) (by decide) ?_
        refine ev_aload_n dL_law_715 1 rfl rfl ?_
        refine ev_aload_n dL_law_716 0 rfl rfl ?_
        refine ev_iload dL_law_717 4 rfl ?_
        refine ev_iconst dL_law_719 (mi_c rfl) ?_
        refine ev_iadd dL_law_720 ?_
        obtain ⟨v86, g, hD⟩ := bd hD
        refine ew_iald dL_law_721 g ?_
        refine ev_aload_n dL_law_722 3 rfl rfl ?_
        obtain ⟨r87, g, hD⟩ := bd hD
        refine ew_callSHv (as := [vr x1, vi v86, vr x3]) (rest := []) dL_law_723 v_L_told w_1044 rfl (Nat.le_of_ble_eq_true rfl) (Nat.le_of_ble_eq_true rfl) (Nat.le_of_ble_eq_true rfl) (ct_L_told hnc g) ?_
        refine ev_istore dL_law_726 (Nat.le_of_ble_eq_true rfl) rfl ?_
        refine ev_aload_n dL_law_728 3 rfl rfl ?_
        refine ev_aload_n dL_law_729 1 rfl rfl ?_
        refine ev_iload dL_law_730 5 rfl ?_
        refine ev_iconst dL_law_732 (mi_c rfl) ?_
        refine ev_iadd dL_law_733 ?_
        obtain ⟨v88, g, hD⟩ := bd hD
        refine ew_iald dL_law_734 g ?_
        obtain ⟨_, g0, hD⟩ := bd hD
        obtain ⟨r89, g, hD⟩ := bd hD
        refine ew_callVv (as := [vi v88]) (a := x2) (rest := []) dL_law_735 v_X9_told w_1691 rfl (Nat.le_of_ble_eq_true rfl) rfl rfl g0 (Nat.le_of_ble_eq_true rfl) (Nat.le_of_ble_eq_true rfl) (ct_X9_told g) ?_
        refine ev_istore dL_law_738 (Nat.le_of_ble_eq_true rfl) rfl ?_
        refine ev_aload_n dL_law_740 4 rfl rfl ?_
        obtain ⟨_, g0, hD⟩ := bd hD
        obtain ⟨r90, g, hD⟩ := bd hD
        refine ew_callVv (as := []) (a := x2) (rest := []) dL_law_741 v_X9_thrown w_1253 rfl (Nat.le_of_ble_eq_true rfl) rfl rfl g0 (Nat.le_of_ble_eq_true rfl) (Nat.le_of_ble_eq_true rfl) (ct_X9_thrown g) ?_
        refine ev_iload dL_law_744 1 rfl ?_
        by_cases c : r90 = r87.1
        · rw [if_pos c] at hD
          refine ev_icmp_eq_t (tgt := 751) dL_law_746 (by decide) c ?_
          refine ev_iload dL_law_751 1 rfl ?_
          by_cases c : r87.1 ≠ 0
          · rw [if_pos c] at hD
            refine ev_if_ne_t (tgt := 768) dL_law_753 (by decide) c ?_
            refine Ev.pick [2, 3, 4, 5, 6] rfl ?_
            exact lk_L_law_768 hnc hD hrec hk
          · rw [if_neg c] at hD
            refine ev_if_ne_f 768 dL_law_753 (by decide) c ?_
            refine ev_aload_n dL_law_756 5 rfl rfl ?_
            refine ev_iconst dL_law_757 (mi_c rfl) ?_
            obtain ⟨v91, g, hD⟩ := bd hD
            refine ew_lald dL_law_758 g ?_
            refine ev_iload dL_law_759 0 rfl ?_
            refine ev_i2l dL_law_761 ?_
            refine ev_lcmp dL_law_762 ?_
            by_cases c : (mlcmp v91 (mi2l r89.1)) = 0
            · rw [if_pos c] at hD
              refine ev_if_eq_t (tgt := 768) dL_law_763 (by decide) c ?_
              refine Ev.pick [2, 3, 4, 5, 6] rfl ?_
              exact lk_L_law_768 hnc hD hrec hk
            · rw [if_neg c] at hD
              refine ev_if_eq_f 768 dL_law_763 (by decide) c ?_
              refine ev_iconst dL_law_766 (mi_c rfl) ?_
              obtain ⟨v92, gb, hD⟩ := bd hD
              cases hD
              obtain ⟨rfl, rfl⟩ := hk.2 _ rfl
              exact ew_retb dL_law_767 rfl gb
        · rw [if_neg c] at hD
          refine ev_icmp_eq_f 751 dL_law_746 (by decide) c ?_
          refine ev_iconst dL_law_749 (mi_c rfl) ?_
          obtain ⟨v93, gb, hD⟩ := bd hD
          cases hD
          obtain ⟨rfl, rfl⟩ := hk.2 _ rfl
          exact ew_retb dL_law_750 rfl gb
      rw [if_neg c9] at hD
      by_cases c10 : (mand v2 31) = 10
      · rw [if_pos c10] at hD
        refine ev_tableIn (off := 731) (tgt := 771) dL_law_40 (by omega) (by omega) (by rw [c10]; rfl) (by decide) ?_
        refine ev_aload_n dL_law_771 1 rfl rfl ?_
        refine ev_aload_n dL_law_772 0 rfl rfl ?_
        refine ev_iload dL_law_773 4 rfl ?_
        refine ev_iconst dL_law_775 (mi_c rfl) ?_
        refine ev_iadd dL_law_776 ?_
        obtain ⟨v94, g, hD⟩ := bd hD
        refine ew_iald dL_law_777 g ?_
        refine ev_aload_n dL_law_778 3 rfl rfl ?_
        obtain ⟨r95, g, hD⟩ := bd hD
        refine ew_callSHv (as := [vr x1, vi v94, vr x3]) (rest := []) dL_law_779 v_L_age w_1063 rfl (Nat.le_of_ble_eq_true rfl) (Nat.le_of_ble_eq_true rfl) (Nat.le_of_ble_eq_true rfl) (ct_L_age hnc g) ?_
        refine ev_istore dL_law_782 (Nat.le_of_ble_eq_true rfl) rfl ?_
        refine ev_aload_n dL_law_784 3 rfl rfl ?_
        refine ev_aload_n dL_law_785 1 rfl rfl ?_
        refine ev_iload dL_law_786 5 rfl ?_
        refine ev_iconst dL_law_788 (mi_c rfl) ?_
        refine ev_iadd dL_law_789 ?_
        obtain ⟨v96, g, hD⟩ := bd hD
        refine ew_iald dL_law_790 g ?_
        obtain ⟨_, g0, hD⟩ := bd hD
        obtain ⟨r97, g, hD⟩ := bd hD
        refine ew_callVv (as := [vi v96]) (a := x2) (rest := []) dL_law_791 v_X9_age w_1707 rfl (Nat.le_of_ble_eq_true rfl) rfl rfl g0 (Nat.le_of_ble_eq_true rfl) (Nat.le_of_ble_eq_true rfl) (ct_X9_age g) ?_
        refine ev_istore dL_law_794 (Nat.le_of_ble_eq_true rfl) rfl ?_
        refine ev_aload_n dL_law_796 4 rfl rfl ?_
        obtain ⟨_, g0, hD⟩ := bd hD
        obtain ⟨r98, g, hD⟩ := bd hD
        refine ew_callVv (as := []) (a := x2) (rest := []) dL_law_797 v_X9_thrown w_1253 rfl (Nat.le_of_ble_eq_true rfl) rfl rfl g0 (Nat.le_of_ble_eq_true rfl) (Nat.le_of_ble_eq_true rfl) (ct_X9_thrown g) ?_
        refine ev_iload dL_law_800 1 rfl ?_
        by_cases c : r98 = r95.1
        · rw [if_pos c] at hD
          refine ev_icmp_eq_t (tgt := 807) dL_law_802 (by decide) c ?_
          refine ev_iload dL_law_807 1 rfl ?_
          by_cases c : r95.1 ≠ 0
          · rw [if_pos c] at hD
            refine ev_if_ne_t (tgt := 824) dL_law_809 (by decide) c ?_
            refine Ev.pick [2, 3, 4, 5, 6] rfl ?_
            exact lk_L_law_824 hnc hD hrec hk
          · rw [if_neg c] at hD
            refine ev_if_ne_f 824 dL_law_809 (by decide) c ?_
            refine ev_aload_n dL_law_812 5 rfl rfl ?_
            refine ev_iconst dL_law_813 (mi_c rfl) ?_
            obtain ⟨v99, g, hD⟩ := bd hD
            refine ew_lald dL_law_814 g ?_
            refine ev_iload dL_law_815 0 rfl ?_
            refine ev_i2l dL_law_817 ?_
            refine ev_lcmp dL_law_818 ?_
            by_cases c : (mlcmp v99 (mi2l r97.1)) = 0
            · rw [if_pos c] at hD
              refine ev_if_eq_t (tgt := 824) dL_law_819 (by decide) c ?_
              refine Ev.pick [2, 3, 4, 5, 6] rfl ?_
              exact lk_L_law_824 hnc hD hrec hk
            · rw [if_neg c] at hD
              refine ev_if_eq_f 824 dL_law_819 (by decide) c ?_
              refine ev_iconst dL_law_822 (mi_c rfl) ?_
              obtain ⟨v100, gb, hD⟩ := bd hD
              cases hD
              obtain ⟨rfl, rfl⟩ := hk.2 _ rfl
              exact ew_retb dL_law_823 rfl gb
        · rw [if_neg c] at hD
          refine ev_icmp_eq_f 807 dL_law_802 (by decide) c ?_
          refine ev_iconst dL_law_805 (mi_c rfl) ?_
          obtain ⟨v101, gb, hD⟩ := bd hD
          cases hD
          obtain ⟨rfl, rfl⟩ := hk.2 _ rfl
          exact ew_retb dL_law_806 rfl gb
      rw [if_neg c10] at hD
      by_cases c11 : (mand v2 31) = 11
      · rw [if_pos c11] at hD
        refine ev_tableIn (off := 787) (tgt := 827) dL_law_40 (by omega) (by omega) (by rw [c11]; rfl) (by decide) ?_
        refine ev_aload_n dL_law_827 1 rfl rfl ?_
        refine ev_aload_n dL_law_828 0 rfl rfl ?_
        refine ev_iload dL_law_829 4 rfl ?_
        refine ev_iconst dL_law_831 (mi_c rfl) ?_
        refine ev_iadd dL_law_832 ?_
        obtain ⟨v102, g, hD⟩ := bd hD
        refine ew_iald dL_law_833 g ?_
        refine ev_aload_n dL_law_834 0 rfl rfl ?_
        refine ev_iload dL_law_835 4 rfl ?_
        refine ev_iconst dL_law_837 (mi_c rfl) ?_
        refine ev_iadd dL_law_838 ?_
        obtain ⟨v103, g, hD⟩ := bd hD
        refine ew_iald dL_law_839 g ?_
        refine ev_aload_n dL_law_840 3 rfl rfl ?_
        obtain ⟨r104, g, hD⟩ := bd hD
        refine ew_callSHv (as := [vr x1, vi v102, vi v103, vr x3]) (rest := []) dL_law_841 v_L_years w_1074 rfl (Nat.le_of_ble_eq_true rfl) (Nat.le_of_ble_eq_true rfl) (Nat.le_of_ble_eq_true rfl) (ct_L_years hnc g) ?_
        refine ev_istore dL_law_844 (Nat.le_of_ble_eq_true rfl) rfl ?_
        refine ev_aload_n dL_law_846 3 rfl rfl ?_
        refine ev_aload_n dL_law_847 1 rfl rfl ?_
        refine ev_iload dL_law_848 5 rfl ?_
        refine ev_iconst dL_law_850 (mi_c rfl) ?_
        refine ev_iadd dL_law_851 ?_
        obtain ⟨v105, g, hD⟩ := bd hD
        refine ew_iald dL_law_852 g ?_
        refine ev_aload_n dL_law_853 1 rfl rfl ?_
        refine ev_iload dL_law_854 5 rfl ?_
        refine ev_iconst dL_law_856 (mi_c rfl) ?_
        refine ev_iadd dL_law_857 ?_
        obtain ⟨v106, g, hD⟩ := bd hD
        refine ew_iald dL_law_858 g ?_
        obtain ⟨_, g0, hD⟩ := bd hD
        obtain ⟨r107, g, hD⟩ := bd hD
        refine ew_callVv (as := [vi v105, vi v106]) (a := x2) (rest := []) dL_law_859 v_X9_years w_1715 rfl (Nat.le_of_ble_eq_true rfl) rfl rfl g0 (Nat.le_of_ble_eq_true rfl) (Nat.le_of_ble_eq_true rfl) (ct_X9_years g) ?_
        refine ev_istore dL_law_862 (Nat.le_of_ble_eq_true rfl) rfl ?_
        refine ev_aload_n dL_law_864 4 rfl rfl ?_
        obtain ⟨_, g0, hD⟩ := bd hD
        obtain ⟨r108, g, hD⟩ := bd hD
        refine ew_callVv (as := []) (a := x2) (rest := []) dL_law_865 v_X9_thrown w_1253 rfl (Nat.le_of_ble_eq_true rfl) rfl rfl g0 (Nat.le_of_ble_eq_true rfl) (Nat.le_of_ble_eq_true rfl) (ct_X9_thrown g) ?_
        refine ev_iload dL_law_868 1 rfl ?_
        by_cases c : r108 = r104.1
        · rw [if_pos c] at hD
          refine ev_icmp_eq_t (tgt := 875) dL_law_870 (by decide) c ?_
          refine ev_iload dL_law_875 1 rfl ?_
          by_cases c : r104.1 ≠ 0
          · rw [if_pos c] at hD
            refine ev_if_ne_t (tgt := 892) dL_law_877 (by decide) c ?_
            refine Ev.pick [2, 3, 4, 5, 6] rfl ?_
            exact lk_L_law_892 hnc hD hrec hk
          · rw [if_neg c] at hD
            refine ev_if_ne_f 892 dL_law_877 (by decide) c ?_
            refine ev_aload_n dL_law_880 5 rfl rfl ?_
            refine ev_iconst dL_law_881 (mi_c rfl) ?_
            obtain ⟨v109, g, hD⟩ := bd hD
            refine ew_lald dL_law_882 g ?_
            refine ev_iload dL_law_883 0 rfl ?_
            refine ev_i2l dL_law_885 ?_
            refine ev_lcmp dL_law_886 ?_
            by_cases c : (mlcmp v109 (mi2l r107.1)) = 0
            · rw [if_pos c] at hD
              refine ev_if_eq_t (tgt := 892) dL_law_887 (by decide) c ?_
              refine Ev.pick [2, 3, 4, 5, 6] rfl ?_
              exact lk_L_law_892 hnc hD hrec hk
            · rw [if_neg c] at hD
              refine ev_if_eq_f 892 dL_law_887 (by decide) c ?_
              refine ev_iconst dL_law_890 (mi_c rfl) ?_
              obtain ⟨v110, gb, hD⟩ := bd hD
              cases hD
              obtain ⟨rfl, rfl⟩ := hk.2 _ rfl
              exact ew_retb dL_law_891 rfl gb
        · rw [if_neg c] at hD
          refine ev_icmp_eq_f 875 dL_law_870 (by decide) c ?_
          refine ev_iconst dL_law_873 (mi_c rfl) ?_
          obtain ⟨v111, gb, hD⟩ := bd hD
          cases hD
          obtain ⟨rfl, rfl⟩ := hk.2 _ rfl
          exact ew_retb dL_law_874 rfl gb
      rw [if_neg c11] at hD
      by_cases c12 : (mand v2 31) = 12
      · rw [if_pos c12] at hD
        refine ev_tableIn (off := 855) (tgt := 895) dL_law_40 (by omega) (by omega) (by rw [c12]; rfl) (by decide) ?_
        refine ev_aload_n dL_law_895 1 rfl rfl ?_
        refine ev_aload_n dL_law_896 0 rfl rfl ?_
        refine ev_iload dL_law_897 4 rfl ?_
        refine ev_iconst dL_law_899 (mi_c rfl) ?_
        refine ev_iadd dL_law_900 ?_
        obtain ⟨v112, g, hD⟩ := bd hD
        refine ew_iald dL_law_901 g ?_
        refine ev_aload_n dL_law_902 0 rfl rfl ?_
        refine ev_iload dL_law_903 4 rfl ?_
        refine ev_iconst dL_law_905 (mi_c rfl) ?_
        refine ev_iadd dL_law_906 ?_
        obtain ⟨v113, g, hD⟩ := bd hD
        refine ew_iald dL_law_907 g ?_
        refine ev_aload_n dL_law_908 3 rfl rfl ?_
        obtain ⟨r114, g, hD⟩ := bd hD
        refine ew_callSHv (as := [vr x1, vi v112, vi v113, vr x3]) (rest := []) dL_law_909 v_L_knot w_1081 rfl (Nat.le_of_ble_eq_true rfl) (Nat.le_of_ble_eq_true rfl) (Nat.le_of_ble_eq_true rfl) (ct_L_knot hnc g) ?_
        refine ev_istore dL_law_912 (Nat.le_of_ble_eq_true rfl) rfl ?_
        refine ev_aload_n dL_law_914 3 rfl rfl ?_
        refine ev_aload_n dL_law_915 1 rfl rfl ?_
        refine ev_iload dL_law_916 5 rfl ?_
        refine ev_iconst dL_law_918 (mi_c rfl) ?_
        refine ev_iadd dL_law_919 ?_
        obtain ⟨v115, g, hD⟩ := bd hD
        refine ew_iald dL_law_920 g ?_
        refine ev_aload_n dL_law_921 1 rfl rfl ?_
        refine ev_iload dL_law_922 5 rfl ?_
        refine ev_iconst dL_law_924 (mi_c rfl) ?_
        refine ev_iadd dL_law_925 ?_
        obtain ⟨v116, g, hD⟩ := bd hD
        refine ew_iald dL_law_926 g ?_
        obtain ⟨_, g0, hD⟩ := bd hD
        obtain ⟨r117, g, hD⟩ := bd hD
        refine ew_callVv (as := [vi v115, vi v116]) (a := x2) (rest := []) dL_law_927 v_X9_knot w_1719 rfl (Nat.le_of_ble_eq_true rfl) rfl rfl g0 (Nat.le_of_ble_eq_true rfl) (Nat.le_of_ble_eq_true rfl) (ct_X9_knot g) ?_
        refine ev_istore dL_law_930 (Nat.le_of_ble_eq_true rfl) rfl ?_
        refine ev_aload_n dL_law_932 4 rfl rfl ?_
        obtain ⟨_, g0, hD⟩ := bd hD
        obtain ⟨r118, g, hD⟩ := bd hD
        refine ew_callVv (as := []) (a := x2) (rest := []) dL_law_933 v_X9_thrown w_1253 rfl (Nat.le_of_ble_eq_true rfl) rfl rfl g0 (Nat.le_of_ble_eq_true rfl) (Nat.le_of_ble_eq_true rfl) (ct_X9_thrown g) ?_
        refine ev_iload dL_law_936 1 rfl ?_
        by_cases c : r118 = r114.1
        · rw [if_pos c] at hD
          refine ev_icmp_eq_t (tgt := 943) dL_law_938 (by decide) c ?_
          refine ev_iload dL_law_943 1 rfl ?_
          by_cases c : r114.1 ≠ 0
          · rw [if_pos c] at hD
            refine ev_if_ne_t (tgt := 960) dL_law_945 (by decide) c ?_
            refine Ev.pick [2, 3, 4, 5, 6] rfl ?_
            exact lk_L_law_960 hnc hD hrec hk
          · rw [if_neg c] at hD
            refine ev_if_ne_f 960 dL_law_945 (by decide) c ?_
            refine ev_aload_n dL_law_948 5 rfl rfl ?_
            refine ev_iconst dL_law_949 (mi_c rfl) ?_
            obtain ⟨v119, g, hD⟩ := bd hD
            refine ew_lald dL_law_950 g ?_
            refine ev_iload dL_law_951 0 rfl ?_
            refine ev_i2l dL_law_953 ?_
            refine ev_lcmp dL_law_954 ?_
            by_cases c : (mlcmp v119 (mi2l r117.1)) = 0
            · rw [if_pos c] at hD
              refine ev_if_eq_t (tgt := 960) dL_law_955 (by decide) c ?_
              refine Ev.pick [2, 3, 4, 5, 6] rfl ?_
              exact lk_L_law_960 hnc hD hrec hk
            · rw [if_neg c] at hD
              refine ev_if_eq_f 960 dL_law_955 (by decide) c ?_
              refine ev_iconst dL_law_958 (mi_c rfl) ?_
              obtain ⟨v120, gb, hD⟩ := bd hD
              cases hD
              obtain ⟨rfl, rfl⟩ := hk.2 _ rfl
              exact ew_retb dL_law_959 rfl gb
        · rw [if_neg c] at hD
          refine ev_icmp_eq_f 943 dL_law_938 (by decide) c ?_
          refine ev_iconst dL_law_941 (mi_c rfl) ?_
          obtain ⟨v121, gb, hD⟩ := bd hD
          cases hD
          obtain ⟨rfl, rfl⟩ := hk.2 _ rfl
          exact ew_retb dL_law_942 rfl gb
      rw [if_neg c12] at hD
      by_cases c13 : (mand v2 31) = 13
      · rw [if_pos c13] at hD
        refine ev_tableIn (off := 923) (tgt := 963) dL_law_40 (by omega) (by omega) (by rw [c13]; rfl) (by decide) ?_
        refine ev_aload_n dL_law_963 1 rfl rfl ?_
        refine ev_aload_n dL_law_964 0 rfl rfl ?_
        refine ev_iload dL_law_965 4 rfl ?_
        refine ev_iconst dL_law_967 (mi_c rfl) ?_
        refine ev_iadd dL_law_968 ?_
        obtain ⟨v122, g, hD⟩ := bd hD
        refine ew_iald dL_law_969 g ?_
        refine ev_aload_n dL_law_970 0 rfl rfl ?_
        refine ev_iload dL_law_971 4 rfl ?_
        refine ev_iconst dL_law_973 (mi_c rfl) ?_
        refine ev_iadd dL_law_974 ?_
        obtain ⟨v123, g, hD⟩ := bd hD
        refine ew_iald dL_law_975 g ?_
        refine ev_aload_n dL_law_976 3 rfl rfl ?_
        obtain ⟨r124, g, hD⟩ := bd hD
        refine ew_callSHv (as := [vr x1, vi v122, vi v123, vr x3]) (rest := []) dL_law_977 v_L_sample w_1088 rfl (Nat.le_of_ble_eq_true rfl) (Nat.le_of_ble_eq_true rfl) (Nat.le_of_ble_eq_true rfl) (ct_L_sample hnc g) ?_
        refine ev_istore dL_law_980 (Nat.le_of_ble_eq_true rfl) rfl ?_
        refine ev_aload_n dL_law_982 3 rfl rfl ?_
        refine ev_aload_n dL_law_983 1 rfl rfl ?_
        refine ev_iload dL_law_984 5 rfl ?_
        refine ev_iconst dL_law_986 (mi_c rfl) ?_
        refine ev_iadd dL_law_987 ?_
        obtain ⟨v125, g, hD⟩ := bd hD
        refine ew_iald dL_law_988 g ?_
        refine ev_aload_n dL_law_989 1 rfl rfl ?_
        refine ev_iload dL_law_990 5 rfl ?_
        refine ev_iconst dL_law_992 (mi_c rfl) ?_
        refine ev_iadd dL_law_993 ?_
        obtain ⟨v126, g, hD⟩ := bd hD
        refine ew_iald dL_law_994 g ?_
        obtain ⟨_, g0, hD⟩ := bd hD
        obtain ⟨r127, g, hD⟩ := bd hD
        refine ew_callVv (as := [vi v125, vi v126]) (a := x2) (rest := []) dL_law_995 v_X9_sample w_1723 rfl (Nat.le_of_ble_eq_true rfl) rfl rfl g0 (Nat.le_of_ble_eq_true rfl) (Nat.le_of_ble_eq_true rfl) (ct_X9_sample g) ?_
        refine ev_istore dL_law_998 (Nat.le_of_ble_eq_true rfl) rfl ?_
        refine ev_aload_n dL_law_1000 4 rfl rfl ?_
        obtain ⟨_, g0, hD⟩ := bd hD
        obtain ⟨r128, g, hD⟩ := bd hD
        refine ew_callVv (as := []) (a := x2) (rest := []) dL_law_1001 v_X9_thrown w_1253 rfl (Nat.le_of_ble_eq_true rfl) rfl rfl g0 (Nat.le_of_ble_eq_true rfl) (Nat.le_of_ble_eq_true rfl) (ct_X9_thrown g) ?_
        refine ev_iload dL_law_1004 1 rfl ?_
        by_cases c : r128 = r124.1
        · rw [if_pos c] at hD
          refine ev_icmp_eq_t (tgt := 1011) dL_law_1006 (by decide) c ?_
          refine ev_iload dL_law_1011 1 rfl ?_
          by_cases c : r124.1 ≠ 0
          · rw [if_pos c] at hD
            refine ev_if_ne_t (tgt := 1028) dL_law_1013 (by decide) c ?_
            refine Ev.pick [2, 3, 4, 5, 6] rfl ?_
            exact lk_L_law_1028 hnc hD hrec hk
          · rw [if_neg c] at hD
            refine ev_if_ne_f 1028 dL_law_1013 (by decide) c ?_
            refine ev_aload_n dL_law_1016 5 rfl rfl ?_
            refine ev_iconst dL_law_1017 (mi_c rfl) ?_
            obtain ⟨v129, g, hD⟩ := bd hD
            refine ew_lald dL_law_1018 g ?_
            refine ev_iload dL_law_1019 0 rfl ?_
            refine ev_i2l dL_law_1021 ?_
            refine ev_lcmp dL_law_1022 ?_
            by_cases c : (mlcmp v129 (mi2l r127.1)) = 0
            · rw [if_pos c] at hD
              refine ev_if_eq_t (tgt := 1028) dL_law_1023 (by decide) c ?_
              refine Ev.pick [2, 3, 4, 5, 6] rfl ?_
              exact lk_L_law_1028 hnc hD hrec hk
            · rw [if_neg c] at hD
              refine ev_if_eq_f 1028 dL_law_1023 (by decide) c ?_
              refine ev_iconst dL_law_1026 (mi_c rfl) ?_
              obtain ⟨v130, gb, hD⟩ := bd hD
              cases hD
              obtain ⟨rfl, rfl⟩ := hk.2 _ rfl
              exact ew_retb dL_law_1027 rfl gb
        · rw [if_neg c] at hD
          refine ev_icmp_eq_f 1011 dL_law_1006 (by decide) c ?_
          refine ev_iconst dL_law_1009 (mi_c rfl) ?_
          obtain ⟨v131, gb, hD⟩ := bd hD
          cases hD
          obtain ⟨rfl, rfl⟩ := hk.2 _ rfl
          exact ew_retb dL_law_1010 rfl gb
      rw [if_neg c13] at hD
      by_cases c14 : (mand v2 31) = 14
      · rw [if_pos c14] at hD
        refine ev_tableIn (off := 991) (tgt := 1031) dL_law_40 (by omega) (by omega) (by rw [c14]; rfl) (by decide) ?_
        refine ev_aload_n dL_law_1031 1 rfl rfl ?_
        refine ev_aload_n dL_law_1032 0 rfl rfl ?_
        refine ev_iload dL_law_1033 4 rfl ?_
        refine ev_iconst dL_law_1035 (mi_c rfl) ?_
        refine ev_iadd dL_law_1036 ?_
        obtain ⟨v132, g, hD⟩ := bd hD
        refine ew_iald dL_law_1037 g ?_
        refine ev_aload_n dL_law_1038 0 rfl rfl ?_
        refine ev_iload dL_law_1039 4 rfl ?_
        refine ev_iconst dL_law_1041 (mi_c rfl) ?_
        refine ev_iadd dL_law_1042 ?_
        obtain ⟨v133, g, hD⟩ := bd hD
        refine ew_iald dL_law_1043 g ?_
        refine ev_aload_n dL_law_1044 0 rfl rfl ?_
        refine ev_iload dL_law_1045 4 rfl ?_
        refine ev_iconst dL_law_1047 (mi_c rfl) ?_
        refine ev_iadd dL_law_1048 ?_
        obtain ⟨v134, g, hD⟩ := bd hD
        refine ew_iald dL_law_1049 g ?_
        refine ev_aload_n dL_law_1050 3 rfl rfl ?_
        obtain ⟨r135, g, hD⟩ := bd hD
        refine ew_callSHv (as := [vr x1, vi v132, vi v133, vi v134, vr x3]) (rest := []) dL_law_1051 v_L_interval w_1113 rfl (Nat.le_of_ble_eq_true rfl) (Nat.le_of_ble_eq_true rfl) (Nat.le_of_ble_eq_true rfl) (ct_L_interval hnc g) ?_
        refine ev_istore dL_law_1054 (Nat.le_of_ble_eq_true rfl) rfl ?_
        refine ev_aload_n dL_law_1056 3 rfl rfl ?_
        refine ev_aload_n dL_law_1057 1 rfl rfl ?_
        refine ev_iload dL_law_1058 5 rfl ?_
        refine ev_iconst dL_law_1060 (mi_c rfl) ?_
        refine ev_iadd dL_law_1061 ?_
        obtain ⟨v136, g, hD⟩ := bd hD
        refine ew_iald dL_law_1062 g ?_
        refine ev_aload_n dL_law_1063 1 rfl rfl ?_
        refine ev_iload dL_law_1064 5 rfl ?_
        refine ev_iconst dL_law_1066 (mi_c rfl) ?_
        refine ev_iadd dL_law_1067 ?_
        obtain ⟨v137, g, hD⟩ := bd hD
        refine ew_iald dL_law_1068 g ?_
        refine ev_aload_n dL_law_1069 1 rfl rfl ?_
        refine ev_iload dL_law_1070 5 rfl ?_
        refine ev_iconst dL_law_1072 (mi_c rfl) ?_
        refine ev_iadd dL_law_1073 ?_
        obtain ⟨v138, g, hD⟩ := bd hD
        refine ew_iald dL_law_1074 g ?_
        obtain ⟨_, g0, hD⟩ := bd hD
        obtain ⟨r139, g, hD⟩ := bd hD
        refine ew_callVv (as := [vi v136, vi v137, vi v138]) (a := x2) (rest := []) dL_law_1075 v_X9_interval w_1747 rfl (Nat.le_of_ble_eq_true rfl) rfl rfl g0 (Nat.le_of_ble_eq_true rfl) (Nat.le_of_ble_eq_true rfl) (ct_X9_interval g) ?_
        refine ev_istore dL_law_1078 (Nat.le_of_ble_eq_true rfl) rfl ?_
        refine ev_aload_n dL_law_1080 4 rfl rfl ?_
        obtain ⟨_, g0, hD⟩ := bd hD
        obtain ⟨r140, g, hD⟩ := bd hD
        refine ew_callVv (as := []) (a := x2) (rest := []) dL_law_1081 v_X9_thrown w_1253 rfl (Nat.le_of_ble_eq_true rfl) rfl rfl g0 (Nat.le_of_ble_eq_true rfl) (Nat.le_of_ble_eq_true rfl) (ct_X9_thrown g) ?_
        refine ev_iload dL_law_1084 1 rfl ?_
        by_cases c : r140 = r135.1
        · rw [if_pos c] at hD
          refine ev_icmp_eq_t (tgt := 1091) dL_law_1086 (by decide) c ?_
          refine ev_iload dL_law_1091 1 rfl ?_
          by_cases c : r135.1 ≠ 0
          · rw [if_pos c] at hD
            refine ev_if_ne_t (tgt := 1108) dL_law_1093 (by decide) c ?_
            refine Ev.pick [2, 3, 4, 5, 6] rfl ?_
            exact lk_L_law_1108 hnc hD hrec hk
          · rw [if_neg c] at hD
            refine ev_if_ne_f 1108 dL_law_1093 (by decide) c ?_
            refine ev_aload_n dL_law_1096 5 rfl rfl ?_
            refine ev_iconst dL_law_1097 (mi_c rfl) ?_
            obtain ⟨v141, g, hD⟩ := bd hD
            refine ew_lald dL_law_1098 g ?_
            refine ev_iload dL_law_1099 0 rfl ?_
            refine ev_i2l dL_law_1101 ?_
            refine ev_lcmp dL_law_1102 ?_
            by_cases c : (mlcmp v141 (mi2l r139.1)) = 0
            · rw [if_pos c] at hD
              refine ev_if_eq_t (tgt := 1108) dL_law_1103 (by decide) c ?_
              refine Ev.pick [2, 3, 4, 5, 6] rfl ?_
              exact lk_L_law_1108 hnc hD hrec hk
            · rw [if_neg c] at hD
              refine ev_if_eq_f 1108 dL_law_1103 (by decide) c ?_
              refine ev_iconst dL_law_1106 (mi_c rfl) ?_
              obtain ⟨v142, gb, hD⟩ := bd hD
              cases hD
              obtain ⟨rfl, rfl⟩ := hk.2 _ rfl
              exact ew_retb dL_law_1107 rfl gb
        · rw [if_neg c] at hD
          refine ev_icmp_eq_f 1091 dL_law_1086 (by decide) c ?_
          refine ev_iconst dL_law_1089 (mi_c rfl) ?_
          obtain ⟨v143, gb, hD⟩ := bd hD
          cases hD
          obtain ⟨rfl, rfl⟩ := hk.2 _ rfl
          exact ew_retb dL_law_1090 rfl gb
      rw [if_neg c14] at hD
      by_cases c15 : (mand v2 31) = 15
      · rw [if_pos c15] at hD
        refine ev_tableIn (off := 1071) (tgt := 1111) dL_law_40 (by omega) (by omega) (by rw [c15]; rfl) (by decide) ?_
        refine ev_aload_n dL_law_1111 1 rfl rfl ?_
        refine ev_aload_n dL_law_1112 0 rfl rfl ?_
        refine ev_iload dL_law_1113 4 rfl ?_
        refine ev_iconst dL_law_1115 (mi_c rfl) ?_
        refine ev_iadd dL_law_1116 ?_
        obtain ⟨v144, g, hD⟩ := bd hD
        refine ew_iald dL_law_1117 g ?_
        refine ev_aload_n dL_law_1118 0 rfl rfl ?_
        refine ev_iload dL_law_1119 4 rfl ?_
        refine ev_iconst dL_law_1121 (mi_c rfl) ?_
        refine ev_iadd dL_law_1122 ?_
        obtain ⟨v145, g, hD⟩ := bd hD
        refine ew_iald dL_law_1123 g ?_
        refine ev_aload_n dL_law_1124 3 rfl rfl ?_
        obtain ⟨r146, g, hD⟩ := bd hD
        refine ew_callSHv (as := [vr x1, vi v144, vi v145, vr x3]) (rest := []) dL_law_1125 v_L_misfit w_1123 rfl (Nat.le_of_ble_eq_true rfl) (Nat.le_of_ble_eq_true rfl) (Nat.le_of_ble_eq_true rfl) (ct_L_misfit hnc g) ?_
        refine ev_istore dL_law_1128 (Nat.le_of_ble_eq_true rfl) rfl ?_
        refine ev_aload_n dL_law_1130 3 rfl rfl ?_
        refine ev_aload_n dL_law_1131 1 rfl rfl ?_
        refine ev_iload dL_law_1132 5 rfl ?_
        refine ev_iconst dL_law_1134 (mi_c rfl) ?_
        refine ev_iadd dL_law_1135 ?_
        obtain ⟨v147, g, hD⟩ := bd hD
        refine ew_iald dL_law_1136 g ?_
        refine ev_aload_n dL_law_1137 1 rfl rfl ?_
        refine ev_iload dL_law_1138 5 rfl ?_
        refine ev_iconst dL_law_1140 (mi_c rfl) ?_
        refine ev_iadd dL_law_1141 ?_
        obtain ⟨v148, g, hD⟩ := bd hD
        refine ew_iald dL_law_1142 g ?_
        obtain ⟨_, g0, hD⟩ := bd hD
        obtain ⟨r149, g, hD⟩ := bd hD
        refine ew_callVv (as := [vi v147, vi v148]) (a := x2) (rest := []) dL_law_1143 v_X9_misfit w_1759 rfl (Nat.le_of_ble_eq_true rfl) rfl rfl g0 (Nat.le_of_ble_eq_true rfl) (Nat.le_of_ble_eq_true rfl) (ct_X9_misfit g) ?_
        refine ev_istore dL_law_1146 (Nat.le_of_ble_eq_true rfl) rfl ?_
        refine ev_aload_n dL_law_1148 4 rfl rfl ?_
        obtain ⟨_, g0, hD⟩ := bd hD
        obtain ⟨r150, g, hD⟩ := bd hD
        refine ew_callVv (as := []) (a := x2) (rest := []) dL_law_1149 v_X9_thrown w_1253 rfl (Nat.le_of_ble_eq_true rfl) rfl rfl g0 (Nat.le_of_ble_eq_true rfl) (Nat.le_of_ble_eq_true rfl) (ct_X9_thrown g) ?_
        refine ev_iload dL_law_1152 1 rfl ?_
        by_cases c : r150 = r146.1
        · rw [if_pos c] at hD
          refine ev_icmp_eq_t (tgt := 1159) dL_law_1154 (by decide) c ?_
          refine ev_iload dL_law_1159 1 rfl ?_
          by_cases c : r146.1 ≠ 0
          · rw [if_pos c] at hD
            refine ev_if_ne_t (tgt := 1176) dL_law_1161 (by decide) c ?_
            refine Ev.pick [2, 3, 4, 5, 6] rfl ?_
            exact lk_L_law_1176 hnc hD hrec hk
          · rw [if_neg c] at hD
            refine ev_if_ne_f 1176 dL_law_1161 (by decide) c ?_
            refine ev_aload_n dL_law_1164 5 rfl rfl ?_
            refine ev_iconst dL_law_1165 (mi_c rfl) ?_
            obtain ⟨v151, g, hD⟩ := bd hD
            refine ew_lald dL_law_1166 g ?_
            refine ev_iload dL_law_1167 0 rfl ?_
            refine ev_i2l dL_law_1169 ?_
            refine ev_lcmp dL_law_1170 ?_
            by_cases c : (mlcmp v151 (mi2l r149.1)) = 0
            · rw [if_pos c] at hD
              refine ev_if_eq_t (tgt := 1176) dL_law_1171 (by decide) c ?_
              refine Ev.pick [2, 3, 4, 5, 6] rfl ?_
              exact lk_L_law_1176 hnc hD hrec hk
            · rw [if_neg c] at hD
              refine ev_if_eq_f 1176 dL_law_1171 (by decide) c ?_
              refine ev_iconst dL_law_1174 (mi_c rfl) ?_
              obtain ⟨v152, gb, hD⟩ := bd hD
              cases hD
              obtain ⟨rfl, rfl⟩ := hk.2 _ rfl
              exact ew_retb dL_law_1175 rfl gb
        · rw [if_neg c] at hD
          refine ev_icmp_eq_f 1159 dL_law_1154 (by decide) c ?_
          refine ev_iconst dL_law_1157 (mi_c rfl) ?_
          obtain ⟨v153, gb, hD⟩ := bd hD
          cases hD
          obtain ⟨rfl, rfl⟩ := hk.2 _ rfl
          exact ew_retb dL_law_1158 rfl gb
      rw [if_neg c15] at hD
      by_cases c16 : (mand v2 31) = 16
      · rw [if_pos c16] at hD
        refine ev_tableIn (off := 1139) (tgt := 1179) dL_law_40 (by omega) (by omega) (by rw [c16]; rfl) (by decide) ?_
        refine ev_aload_n dL_law_1179 1 rfl rfl ?_
        refine ev_aload_n dL_law_1180 0 rfl rfl ?_
        refine ev_iload dL_law_1181 4 rfl ?_
        refine ev_iconst dL_law_1183 (mi_c rfl) ?_
        refine ev_iadd dL_law_1184 ?_
        obtain ⟨v154, g, hD⟩ := bd hD
        refine ew_iald dL_law_1185 g ?_
        refine ev_aload_n dL_law_1186 0 rfl rfl ?_
        refine ev_iload dL_law_1187 4 rfl ?_
        refine ev_iconst dL_law_1189 (mi_c rfl) ?_
        refine ev_iadd dL_law_1190 ?_
        obtain ⟨v155, g, hD⟩ := bd hD
        refine ew_iald dL_law_1191 g ?_
        refine ev_aload_n dL_law_1192 3 rfl rfl ?_
        obtain ⟨r156, g, hD⟩ := bd hD
        refine ew_callSHv (as := [vr x1, vi v154, vi v155, vr x3]) (rest := []) dL_law_1193 v_L_place w_1130 rfl (Nat.le_of_ble_eq_true rfl) (Nat.le_of_ble_eq_true rfl) (Nat.le_of_ble_eq_true rfl) (ct_L_place hnc g) ?_
        refine ev_istore dL_law_1196 (Nat.le_of_ble_eq_true rfl) rfl ?_
        refine ev_aload_n dL_law_1198 3 rfl rfl ?_
        refine ev_aload_n dL_law_1199 1 rfl rfl ?_
        refine ev_iload dL_law_1200 5 rfl ?_
        refine ev_iconst dL_law_1202 (mi_c rfl) ?_
        refine ev_iadd dL_law_1203 ?_
        obtain ⟨v157, g, hD⟩ := bd hD
        refine ew_iald dL_law_1204 g ?_
        refine ev_aload_n dL_law_1205 1 rfl rfl ?_
        refine ev_iload dL_law_1206 5 rfl ?_
        refine ev_iconst dL_law_1208 (mi_c rfl) ?_
        refine ev_iadd dL_law_1209 ?_
        obtain ⟨v158, g, hD⟩ := bd hD
        refine ew_iald dL_law_1210 g ?_
        obtain ⟨_, g0, hD⟩ := bd hD
        obtain ⟨r159, g, hD⟩ := bd hD
        refine ew_callVv (as := [vi v157, vi v158]) (a := x2) (rest := []) dL_law_1211 v_X9_place w_1763 rfl (Nat.le_of_ble_eq_true rfl) rfl rfl g0 (Nat.le_of_ble_eq_true rfl) (Nat.le_of_ble_eq_true rfl) (ct_X9_place g) ?_
        refine ev_istore dL_law_1214 (Nat.le_of_ble_eq_true rfl) rfl ?_
        refine ev_aload_n dL_law_1216 4 rfl rfl ?_
        obtain ⟨_, g0, hD⟩ := bd hD
        obtain ⟨r160, g, hD⟩ := bd hD
        refine ew_callVv (as := []) (a := x2) (rest := []) dL_law_1217 v_X9_thrown w_1253 rfl (Nat.le_of_ble_eq_true rfl) rfl rfl g0 (Nat.le_of_ble_eq_true rfl) (Nat.le_of_ble_eq_true rfl) (ct_X9_thrown g) ?_
        refine ev_iload dL_law_1220 1 rfl ?_
        by_cases c : r160 = r156.1
        · rw [if_pos c] at hD
          refine ev_icmp_eq_t (tgt := 1227) dL_law_1222 (by decide) c ?_
          refine ev_iload dL_law_1227 1 rfl ?_
          by_cases c : r156.1 ≠ 0
          · rw [if_pos c] at hD
            refine ev_if_ne_t (tgt := 1244) dL_law_1229 (by decide) c ?_
            refine Ev.pick [2, 3, 4, 5, 6] rfl ?_
            exact lk_L_law_1244 hnc hD hrec hk
          · rw [if_neg c] at hD
            refine ev_if_ne_f 1244 dL_law_1229 (by decide) c ?_
            refine ev_aload_n dL_law_1232 5 rfl rfl ?_
            refine ev_iconst dL_law_1233 (mi_c rfl) ?_
            obtain ⟨v161, g, hD⟩ := bd hD
            refine ew_lald dL_law_1234 g ?_
            refine ev_iload dL_law_1235 0 rfl ?_
            refine ev_i2l dL_law_1237 ?_
            refine ev_lcmp dL_law_1238 ?_
            by_cases c : (mlcmp v161 (mi2l r159.1)) = 0
            · rw [if_pos c] at hD
              refine ev_if_eq_t (tgt := 1244) dL_law_1239 (by decide) c ?_
              refine Ev.pick [2, 3, 4, 5, 6] rfl ?_
              exact lk_L_law_1244 hnc hD hrec hk
            · rw [if_neg c] at hD
              refine ev_if_eq_f 1244 dL_law_1239 (by decide) c ?_
              refine ev_iconst dL_law_1242 (mi_c rfl) ?_
              obtain ⟨v162, gb, hD⟩ := bd hD
              cases hD
              obtain ⟨rfl, rfl⟩ := hk.2 _ rfl
              exact ew_retb dL_law_1243 rfl gb
        · rw [if_neg c] at hD
          refine ev_icmp_eq_f 1227 dL_law_1222 (by decide) c ?_
          refine ev_iconst dL_law_1225 (mi_c rfl) ?_
          obtain ⟨v163, gb, hD⟩ := bd hD
          cases hD
          obtain ⟨rfl, rfl⟩ := hk.2 _ rfl
          exact ew_retb dL_law_1226 rfl gb
      rw [if_neg c16] at hD
      by_cases c17 : (mand v2 31) = 17
      · rw [if_pos c17] at hD
        refine ev_tableIn (off := 1207) (tgt := 1247) dL_law_40 (by omega) (by omega) (by rw [c17]; rfl) (by decide) ?_
        refine ev_aload_n dL_law_1247 1 rfl rfl ?_
        refine ev_aload_n dL_law_1248 0 rfl rfl ?_
        refine ev_iload dL_law_1249 4 rfl ?_
        refine ev_iconst dL_law_1251 (mi_c rfl) ?_
        refine ev_iadd dL_law_1252 ?_
        obtain ⟨v164, g, hD⟩ := bd hD
        refine ew_iald dL_law_1253 g ?_
        refine ev_aload_n dL_law_1254 0 rfl rfl ?_
        refine ev_iload dL_law_1255 4 rfl ?_
        refine ev_iconst dL_law_1257 (mi_c rfl) ?_
        refine ev_iadd dL_law_1258 ?_
        obtain ⟨v165, g, hD⟩ := bd hD
        refine ew_iald dL_law_1259 g ?_
        refine ev_aload_n dL_law_1260 3 rfl rfl ?_
        obtain ⟨r166, g, hD⟩ := bd hD
        refine ew_callSHv (as := [vr x1, vi v164, vi v165, vr x3]) (rest := []) dL_law_1261 v_L_rule w_1140 rfl (Nat.le_of_ble_eq_true rfl) (Nat.le_of_ble_eq_true rfl) (Nat.le_of_ble_eq_true rfl) (ct_L_rule hnc g) ?_
        refine ev_istore dL_law_1264 (Nat.le_of_ble_eq_true rfl) rfl ?_
        refine ev_aload_n dL_law_1266 3 rfl rfl ?_
        refine ev_aload_n dL_law_1267 1 rfl rfl ?_
        refine ev_iload dL_law_1268 5 rfl ?_
        refine ev_iconst dL_law_1270 (mi_c rfl) ?_
        refine ev_iadd dL_law_1271 ?_
        obtain ⟨v167, g, hD⟩ := bd hD
        refine ew_iald dL_law_1272 g ?_
        refine ev_aload_n dL_law_1273 1 rfl rfl ?_
        refine ev_iload dL_law_1274 5 rfl ?_
        refine ev_iconst dL_law_1276 (mi_c rfl) ?_
        refine ev_iadd dL_law_1277 ?_
        obtain ⟨v168, g, hD⟩ := bd hD
        refine ew_iald dL_law_1278 g ?_
        obtain ⟨_, g0, hD⟩ := bd hD
        obtain ⟨r169, g, hD⟩ := bd hD
        refine ew_callVv (as := [vi v167, vi v168]) (a := x2) (rest := []) dL_law_1279 v_X9_rule w_1767 rfl (Nat.le_of_ble_eq_true rfl) rfl rfl g0 (Nat.le_of_ble_eq_true rfl) (Nat.le_of_ble_eq_true rfl) (ct_X9_rule g) ?_
        refine ev_istore dL_law_1282 (Nat.le_of_ble_eq_true rfl) rfl ?_
        refine ev_aload_n dL_law_1284 4 rfl rfl ?_
        obtain ⟨_, g0, hD⟩ := bd hD
        obtain ⟨r170, g, hD⟩ := bd hD
        refine ew_callVv (as := []) (a := x2) (rest := []) dL_law_1285 v_X9_thrown w_1253 rfl (Nat.le_of_ble_eq_true rfl) rfl rfl g0 (Nat.le_of_ble_eq_true rfl) (Nat.le_of_ble_eq_true rfl) (ct_X9_thrown g) ?_
        refine ev_iload dL_law_1288 1 rfl ?_
        by_cases c : r170 = r166.1
        · rw [if_pos c] at hD
          refine ev_icmp_eq_t (tgt := 1295) dL_law_1290 (by decide) c ?_
          refine ev_iload dL_law_1295 1 rfl ?_
          by_cases c : r166.1 ≠ 0
          · rw [if_pos c] at hD
            refine ev_if_ne_t (tgt := 1312) dL_law_1297 (by decide) c ?_
            refine Ev.pick [2, 3, 4, 5, 6] rfl ?_
            exact lk_L_law_1312 hnc hD hrec hk
          · rw [if_neg c] at hD
            refine ev_if_ne_f 1312 dL_law_1297 (by decide) c ?_
            refine ev_aload_n dL_law_1300 5 rfl rfl ?_
            refine ev_iconst dL_law_1301 (mi_c rfl) ?_
            obtain ⟨v171, g, hD⟩ := bd hD
            refine ew_lald dL_law_1302 g ?_
            refine ev_iload dL_law_1303 0 rfl ?_
            refine ev_i2l dL_law_1305 ?_
            refine ev_lcmp dL_law_1306 ?_
            by_cases c : (mlcmp v171 (mi2l r169.1)) = 0
            · rw [if_pos c] at hD
              refine ev_if_eq_t (tgt := 1312) dL_law_1307 (by decide) c ?_
              refine Ev.pick [2, 3, 4, 5, 6] rfl ?_
              exact lk_L_law_1312 hnc hD hrec hk
            · rw [if_neg c] at hD
              refine ev_if_eq_f 1312 dL_law_1307 (by decide) c ?_
              refine ev_iconst dL_law_1310 (mi_c rfl) ?_
              obtain ⟨v172, gb, hD⟩ := bd hD
              cases hD
              obtain ⟨rfl, rfl⟩ := hk.2 _ rfl
              exact ew_retb dL_law_1311 rfl gb
        · rw [if_neg c] at hD
          refine ev_icmp_eq_f 1295 dL_law_1290 (by decide) c ?_
          refine ev_iconst dL_law_1293 (mi_c rfl) ?_
          obtain ⟨v173, gb, hD⟩ := bd hD
          cases hD
          obtain ⟨rfl, rfl⟩ := hk.2 _ rfl
          exact ew_retb dL_law_1294 rfl gb
      rw [if_neg c17] at hD
      by_cases c18 : (mand v2 31) = 18
      · rw [if_pos c18] at hD
        refine ev_tableIn (off := 1275) (tgt := 1315) dL_law_40 (by omega) (by omega) (by rw [c18]; rfl) (by decide) ?_
        refine ev_aload_n dL_law_1315 1 rfl rfl ?_
        refine ev_aload_n dL_law_1316 0 rfl rfl ?_
        refine ev_iload dL_law_1317 4 rfl ?_
        refine ev_iconst dL_law_1319 (mi_c rfl) ?_
        refine ev_iadd dL_law_1320 ?_
        obtain ⟨v174, g, hD⟩ := bd hD
        refine ew_iald dL_law_1321 g ?_
        refine ev_aload_n dL_law_1322 3 rfl rfl ?_
        obtain ⟨r175, g, hD⟩ := bd hD
        refine ew_callSHv (as := [vr x1, vi v174, vr x3]) (rest := []) dL_law_1323 v_L_clash w_1147 rfl (Nat.le_of_ble_eq_true rfl) (Nat.le_of_ble_eq_true rfl) (Nat.le_of_ble_eq_true rfl) (ct_L_clash hnc g) ?_
        refine ev_istore dL_law_1326 (Nat.le_of_ble_eq_true rfl) rfl ?_
        refine ev_aload_n dL_law_1328 3 rfl rfl ?_
        refine ev_aload_n dL_law_1329 1 rfl rfl ?_
        refine ev_iload dL_law_1330 5 rfl ?_
        refine ev_iconst dL_law_1332 (mi_c rfl) ?_
        refine ev_iadd dL_law_1333 ?_
        obtain ⟨v176, g, hD⟩ := bd hD
        refine ew_iald dL_law_1334 g ?_
        obtain ⟨_, g0, hD⟩ := bd hD
        obtain ⟨r177, g, hD⟩ := bd hD
        refine ew_callVv (as := [vi v176]) (a := x2) (rest := []) dL_law_1335 v_X9_clash w_1771 rfl (Nat.le_of_ble_eq_true rfl) rfl rfl g0 (Nat.le_of_ble_eq_true rfl) (Nat.le_of_ble_eq_true rfl) (ct_X9_clash g) ?_
        refine ev_istore dL_law_1338 (Nat.le_of_ble_eq_true rfl) rfl ?_
        refine ev_aload_n dL_law_1340 4 rfl rfl ?_
        obtain ⟨_, g0, hD⟩ := bd hD
        obtain ⟨r178, g, hD⟩ := bd hD
        refine ew_callVv (as := []) (a := x2) (rest := []) dL_law_1341 v_X9_thrown w_1253 rfl (Nat.le_of_ble_eq_true rfl) rfl rfl g0 (Nat.le_of_ble_eq_true rfl) (Nat.le_of_ble_eq_true rfl) (ct_X9_thrown g) ?_
        refine ev_iload dL_law_1344 1 rfl ?_
        by_cases c : r178 = r175.1
        · rw [if_pos c] at hD
          refine ev_icmp_eq_t (tgt := 1351) dL_law_1346 (by decide) c ?_
          refine ev_iload dL_law_1351 1 rfl ?_
          by_cases c : r175.1 ≠ 0
          · rw [if_pos c] at hD
            refine ev_if_ne_t (tgt := 1368) dL_law_1353 (by decide) c ?_
            refine Ev.pick [2, 3, 4, 5, 6] rfl ?_
            exact lk_L_law_1368 hnc hD hrec hk
          · rw [if_neg c] at hD
            refine ev_if_ne_f 1368 dL_law_1353 (by decide) c ?_
            refine ev_aload_n dL_law_1356 5 rfl rfl ?_
            refine ev_iconst dL_law_1357 (mi_c rfl) ?_
            obtain ⟨v179, g, hD⟩ := bd hD
            refine ew_lald dL_law_1358 g ?_
            refine ev_iload dL_law_1359 0 rfl ?_
            refine ev_i2l dL_law_1361 ?_
            refine ev_lcmp dL_law_1362 ?_
            by_cases c : (mlcmp v179 (mi2l r177.1)) = 0
            · rw [if_pos c] at hD
              refine ev_if_eq_t (tgt := 1368) dL_law_1363 (by decide) c ?_
              refine Ev.pick [2, 3, 4, 5, 6] rfl ?_
              exact lk_L_law_1368 hnc hD hrec hk
            · rw [if_neg c] at hD
              refine ev_if_eq_f 1368 dL_law_1363 (by decide) c ?_
              refine ev_iconst dL_law_1366 (mi_c rfl) ?_
              obtain ⟨v180, gb, hD⟩ := bd hD
              cases hD
              obtain ⟨rfl, rfl⟩ := hk.2 _ rfl
              exact ew_retb dL_law_1367 rfl gb
        · rw [if_neg c] at hD
          refine ev_icmp_eq_f 1351 dL_law_1346 (by decide) c ?_
          refine ev_iconst dL_law_1349 (mi_c rfl) ?_
          obtain ⟨v181, gb, hD⟩ := bd hD
          cases hD
          obtain ⟨rfl, rfl⟩ := hk.2 _ rfl
          exact ew_retb dL_law_1350 rfl gb
      rw [if_neg c18] at hD
      by_cases c19 : (mand v2 31) = 19
      · rw [if_pos c19] at hD
        refine ev_tableIn (off := 1331) (tgt := 1371) dL_law_40 (by omega) (by omega) (by rw [c19]; rfl) (by decide) ?_
        refine ev_aload_n dL_law_1371 1 rfl rfl ?_
        obtain ⟨_, g0, hD⟩ := bd hD
        obtain ⟨r182, g, hD⟩ := bd hD
        refine ew_callVv (as := []) (a := x1) (rest := []) dL_law_1372 v_X8_blame w_662 rfl (Nat.le_of_ble_eq_true rfl) rfl rfl g0 (Nat.le_of_ble_eq_true rfl) (Nat.le_of_ble_eq_true rfl) (ct_X8_blame g) ?_
        refine ev_aload_n dL_law_1375 2 rfl rfl ?_
        obtain ⟨_, g0, hD⟩ := bd hD
        obtain ⟨r183, g, hD⟩ := bd hD
        refine ew_callVv (as := []) (a := x2) (rest := [vi r182.1]) dL_law_1376 v_X9_blame w_1775 rfl (Nat.le_of_ble_eq_true rfl) rfl rfl g0 (Nat.le_of_ble_eq_true rfl) (Nat.le_of_ble_eq_true rfl) (ct_X9_blame g) ?_
        by_cases c : r182.1 = r183.1
        · rw [if_pos c] at hD
          refine ev_icmp_eq_t (tgt := 1914) dL_law_1379 (by decide) c ?_
          exact lk_L_law_1914 hnc hD hrec hk
        · rw [if_neg c] at hD
          refine ev_icmp_eq_f 1914 dL_law_1379 (by decide) c ?_
          refine ev_iconst dL_law_1382 (mi_c rfl) ?_
          obtain ⟨v184, gb, hD⟩ := bd hD
          cases hD
          obtain ⟨rfl, rfl⟩ := hk.2 _ rfl
          exact ew_retb dL_law_1383 rfl gb
      rw [if_neg c19] at hD
      by_cases c20 : (mand v2 31) = 20
      · rw [if_pos c20] at hD
        refine ev_tableIn (off := 1344) (tgt := 1384) dL_law_40 (by omega) (by omega) (by rw [c20]; rfl) (by decide) ?_
        refine ev_aload_n dL_law_1384 1 rfl rfl ?_
        obtain ⟨_, g0, hD⟩ := bd hD
        obtain ⟨r185, g, hD⟩ := bd hD
        refine ew_callVv (as := []) (a := x1) (rest := []) dL_law_1385 v_X8_needless w_671 rfl (Nat.le_of_ble_eq_true rfl) rfl rfl g0 (Nat.le_of_ble_eq_true rfl) (Nat.le_of_ble_eq_true rfl) (ct_X8_needless g) ?_
        refine ev_aload_n dL_law_1388 2 rfl rfl ?_
        obtain ⟨_, g0, hD⟩ := bd hD
        obtain ⟨r186, g, hD⟩ := bd hD
        refine ew_callVv (as := []) (a := x2) (rest := [vi r185.1]) dL_law_1389 v_X9_needless w_1783 rfl (Nat.le_of_ble_eq_true rfl) rfl rfl g0 (Nat.le_of_ble_eq_true rfl) (Nat.le_of_ble_eq_true rfl) (ct_X9_needless g) ?_
        by_cases c : r185.1 = r186.1
        · rw [if_pos c] at hD
          refine ev_icmp_eq_t (tgt := 1914) dL_law_1392 (by decide) c ?_
          exact lk_L_law_1914 hnc hD hrec hk
        · rw [if_neg c] at hD
          refine ev_icmp_eq_f 1914 dL_law_1392 (by decide) c ?_
          refine ev_iconst dL_law_1395 (mi_c rfl) ?_
          obtain ⟨v187, gb, hD⟩ := bd hD
          cases hD
          obtain ⟨rfl, rfl⟩ := hk.2 _ rfl
          exact ew_retb dL_law_1396 rfl gb
      rw [if_neg c20] at hD
      by_cases c21 : (mand v2 31) = 21
      · rw [if_pos c21] at hD
        refine ev_tableIn (off := 1357) (tgt := 1397) dL_law_40 (by omega) (by omega) (by rw [c21]; rfl) (by decide) ?_
        refine ev_aload_n dL_law_1397 1 rfl rfl ?_
        refine ev_aload_n dL_law_1398 0 rfl rfl ?_
        refine ev_iload dL_law_1399 4 rfl ?_
        refine ev_iconst dL_law_1401 (mi_c rfl) ?_
        refine ev_iadd dL_law_1402 ?_
        obtain ⟨v188, g, hD⟩ := bd hD
        refine ew_iald dL_law_1403 g ?_
        refine ev_aload_n dL_law_1404 0 rfl rfl ?_
        refine ev_iload dL_law_1405 4 rfl ?_
        refine ev_iconst dL_law_1407 (mi_c rfl) ?_
        refine ev_iadd dL_law_1408 ?_
        obtain ⟨v189, g, hD⟩ := bd hD
        refine ew_iald dL_law_1409 g ?_
        refine ev_aload_n dL_law_1410 3 rfl rfl ?_
        obtain ⟨r190, g, hD⟩ := bd hD
        refine ew_callSHv (as := [vr x1, vi v188, vi v189, vr x3]) (rest := []) dL_law_1411 v_L_without w_1154 rfl (Nat.le_of_ble_eq_true rfl) (Nat.le_of_ble_eq_true rfl) (Nat.le_of_ble_eq_true rfl) (ct_L_without hnc g) ?_
        refine ev_istore dL_law_1414 (Nat.le_of_ble_eq_true rfl) rfl ?_
        refine ev_aload_n dL_law_1416 3 rfl rfl ?_
        refine ev_aload_n dL_law_1417 1 rfl rfl ?_
        refine ev_iload dL_law_1418 5 rfl ?_
        refine ev_iconst dL_law_1420 (mi_c rfl) ?_
        refine ev_iadd dL_law_1421 ?_
        obtain ⟨v191, g, hD⟩ := bd hD
        refine ew_iald dL_law_1422 g ?_
        refine ev_aload_n dL_law_1423 1 rfl rfl ?_
        refine ev_iload dL_law_1424 5 rfl ?_
        refine ev_iconst dL_law_1426 (mi_c rfl) ?_
        refine ev_iadd dL_law_1427 ?_
        obtain ⟨v192, g, hD⟩ := bd hD
        refine ew_iald dL_law_1428 g ?_
        obtain ⟨_, g0, hD⟩ := bd hD
        obtain ⟨r193, g, hD⟩ := bd hD
        refine ew_callVv (as := [vi v191, vi v192]) (a := x2) (rest := []) dL_law_1429 v_X9_without w_1795 rfl (Nat.le_of_ble_eq_true rfl) rfl rfl g0 (Nat.le_of_ble_eq_true rfl) (Nat.le_of_ble_eq_true rfl) (ct_X9_without g) ?_
        refine ev_istore dL_law_1432 (Nat.le_of_ble_eq_true rfl) rfl ?_
        refine ev_aload_n dL_law_1434 4 rfl rfl ?_
        obtain ⟨_, g0, hD⟩ := bd hD
        obtain ⟨r194, g, hD⟩ := bd hD
        refine ew_callVv (as := []) (a := x2) (rest := []) dL_law_1435 v_X9_thrown w_1253 rfl (Nat.le_of_ble_eq_true rfl) rfl rfl g0 (Nat.le_of_ble_eq_true rfl) (Nat.le_of_ble_eq_true rfl) (ct_X9_thrown g) ?_
        refine ev_iload dL_law_1438 1 rfl ?_
        by_cases c : r194 = r190.1
        · rw [if_pos c] at hD
          refine ev_icmp_eq_t (tgt := 1445) dL_law_1440 (by decide) c ?_
          refine ev_iload dL_law_1445 1 rfl ?_
          by_cases c : r190.1 ≠ 0
          · rw [if_pos c] at hD
            refine ev_if_ne_t (tgt := 1462) dL_law_1447 (by decide) c ?_
            refine Ev.pick [2, 3, 4, 5, 6] rfl ?_
            exact lk_L_law_1462 hnc hD hrec hk
          · rw [if_neg c] at hD
            refine ev_if_ne_f 1462 dL_law_1447 (by decide) c ?_
            refine ev_aload_n dL_law_1450 5 rfl rfl ?_
            refine ev_iconst dL_law_1451 (mi_c rfl) ?_
            obtain ⟨v195, g, hD⟩ := bd hD
            refine ew_lald dL_law_1452 g ?_
            refine ev_iload dL_law_1453 0 rfl ?_
            refine ev_i2l dL_law_1455 ?_
            refine ev_lcmp dL_law_1456 ?_
            by_cases c : (mlcmp v195 (mi2l r193.1)) = 0
            · rw [if_pos c] at hD
              refine ev_if_eq_t (tgt := 1462) dL_law_1457 (by decide) c ?_
              refine Ev.pick [2, 3, 4, 5, 6] rfl ?_
              exact lk_L_law_1462 hnc hD hrec hk
            · rw [if_neg c] at hD
              refine ev_if_eq_f 1462 dL_law_1457 (by decide) c ?_
              refine ev_iconst dL_law_1460 (mi_c rfl) ?_
              obtain ⟨v196, gb, hD⟩ := bd hD
              cases hD
              obtain ⟨rfl, rfl⟩ := hk.2 _ rfl
              exact ew_retb dL_law_1461 rfl gb
        · rw [if_neg c] at hD
          refine ev_icmp_eq_f 1445 dL_law_1440 (by decide) c ?_
          refine ev_iconst dL_law_1443 (mi_c rfl) ?_
          obtain ⟨v197, gb, hD⟩ := bd hD
          cases hD
          obtain ⟨rfl, rfl⟩ := hk.2 _ rfl
          exact ew_retb dL_law_1444 rfl gb
      rw [if_neg c21] at hD
      by_cases c22 : (mand v2 31) = 22
      · rw [if_pos c22] at hD
        refine ev_tableIn (off := 1425) (tgt := 1465) dL_law_40 (by omega) (by omega) (by rw [c22]; rfl) (by decide) ?_
        refine ev_aload_n dL_law_1465 1 rfl rfl ?_
        refine ev_aload_n dL_law_1466 0 rfl rfl ?_
        refine ev_iload dL_law_1467 4 rfl ?_
        refine ev_iconst dL_law_1469 (mi_c rfl) ?_
        refine ev_iadd dL_law_1470 ?_
        obtain ⟨v198, g, hD⟩ := bd hD
        refine ew_iald dL_law_1471 g ?_
        refine ev_aload_n dL_law_1472 0 rfl rfl ?_
        refine ev_iload dL_law_1473 4 rfl ?_
        refine ev_iconst dL_law_1475 (mi_c rfl) ?_
        refine ev_iadd dL_law_1476 ?_
        obtain ⟨v199, g, hD⟩ := bd hD
        refine ew_iald dL_law_1477 g ?_
        refine ev_aload_n dL_law_1478 0 rfl rfl ?_
        refine ev_iload dL_law_1479 4 rfl ?_
        refine ev_iconst dL_law_1481 (mi_c rfl) ?_
        refine ev_iadd dL_law_1482 ?_
        obtain ⟨v200, g, hD⟩ := bd hD
        refine ew_iald dL_law_1483 g ?_
        refine ev_aload_n dL_law_1484 3 rfl rfl ?_
        obtain ⟨r201, g, hD⟩ := bd hD
        refine ew_callSHv (as := [vr x1, vi v198, vi v199, vi v200, vr x3]) (rest := []) dL_law_1485 v_L_pinned w_1165 rfl (Nat.le_of_ble_eq_true rfl) (Nat.le_of_ble_eq_true rfl) (Nat.le_of_ble_eq_true rfl) (ct_L_pinned hnc g) ?_
        refine ev_istore dL_law_1488 (Nat.le_of_ble_eq_true rfl) rfl ?_
        refine ev_aload_n dL_law_1490 3 rfl rfl ?_
        refine ev_aload_n dL_law_1491 1 rfl rfl ?_
        refine ev_iload dL_law_1492 5 rfl ?_
        refine ev_iconst dL_law_1494 (mi_c rfl) ?_
        refine ev_iadd dL_law_1495 ?_
        obtain ⟨v202, g, hD⟩ := bd hD
        refine ew_iald dL_law_1496 g ?_
        refine ev_aload_n dL_law_1497 1 rfl rfl ?_
        refine ev_iload dL_law_1498 5 rfl ?_
        refine ev_iconst dL_law_1500 (mi_c rfl) ?_
        refine ev_iadd dL_law_1501 ?_
        obtain ⟨v203, g, hD⟩ := bd hD
        refine ew_iald dL_law_1502 g ?_
        refine ev_aload_n dL_law_1503 1 rfl rfl ?_
        refine ev_iload dL_law_1504 5 rfl ?_
        refine ev_iconst dL_law_1506 (mi_c rfl) ?_
        refine ev_iadd dL_law_1507 ?_
        obtain ⟨v204, g, hD⟩ := bd hD
        refine ew_iald dL_law_1508 g ?_
        obtain ⟨_, g0, hD⟩ := bd hD
        obtain ⟨r205, g, hD⟩ := bd hD
        refine ew_callVv (as := [vi v202, vi v203, vi v204]) (a := x2) (rest := []) dL_law_1509 v_X9_pinned w_1803 rfl (Nat.le_of_ble_eq_true rfl) rfl rfl g0 (Nat.le_of_ble_eq_true rfl) (Nat.le_of_ble_eq_true rfl) (ct_X9_pinned g) ?_
        refine ev_istore dL_law_1512 (Nat.le_of_ble_eq_true rfl) rfl ?_
        refine ev_aload_n dL_law_1514 4 rfl rfl ?_
        obtain ⟨_, g0, hD⟩ := bd hD
        obtain ⟨r206, g, hD⟩ := bd hD
        refine ew_callVv (as := []) (a := x2) (rest := []) dL_law_1515 v_X9_thrown w_1253 rfl (Nat.le_of_ble_eq_true rfl) rfl rfl g0 (Nat.le_of_ble_eq_true rfl) (Nat.le_of_ble_eq_true rfl) (ct_X9_thrown g) ?_
        refine ev_iload dL_law_1518 1 rfl ?_
        by_cases c : r206 = r201.1
        · rw [if_pos c] at hD
          refine ev_icmp_eq_t (tgt := 1525) dL_law_1520 (by decide) c ?_
          refine ev_iload dL_law_1525 1 rfl ?_
          by_cases c : r201.1 ≠ 0
          · rw [if_pos c] at hD
            refine ev_if_ne_t (tgt := 1542) dL_law_1527 (by decide) c ?_
            refine Ev.pick [2, 3, 4, 5, 6] rfl ?_
            exact lk_L_law_1542 hnc hD hrec hk
          · rw [if_neg c] at hD
            refine ev_if_ne_f 1542 dL_law_1527 (by decide) c ?_
            refine ev_aload_n dL_law_1530 5 rfl rfl ?_
            refine ev_iconst dL_law_1531 (mi_c rfl) ?_
            obtain ⟨v207, g, hD⟩ := bd hD
            refine ew_lald dL_law_1532 g ?_
            refine ev_iload dL_law_1533 0 rfl ?_
            refine ev_i2l dL_law_1535 ?_
            refine ev_lcmp dL_law_1536 ?_
            by_cases c : (mlcmp v207 (mi2l r205.1)) = 0
            · rw [if_pos c] at hD
              refine ev_if_eq_t (tgt := 1542) dL_law_1537 (by decide) c ?_
              refine Ev.pick [2, 3, 4, 5, 6] rfl ?_
              exact lk_L_law_1542 hnc hD hrec hk
            · rw [if_neg c] at hD
              refine ev_if_eq_f 1542 dL_law_1537 (by decide) c ?_
              refine ev_iconst dL_law_1540 (mi_c rfl) ?_
              obtain ⟨v208, gb, hD⟩ := bd hD
              cases hD
              obtain ⟨rfl, rfl⟩ := hk.2 _ rfl
              exact ew_retb dL_law_1541 rfl gb
        · rw [if_neg c] at hD
          refine ev_icmp_eq_f 1525 dL_law_1520 (by decide) c ?_
          refine ev_iconst dL_law_1523 (mi_c rfl) ?_
          obtain ⟨v209, gb, hD⟩ := bd hD
          cases hD
          obtain ⟨rfl, rfl⟩ := hk.2 _ rfl
          exact ew_retb dL_law_1524 rfl gb
      rw [if_neg c22] at hD
      by_cases c23 : (mand v2 31) = 23
      · rw [if_pos c23] at hD
        refine ev_tableIn (off := 1505) (tgt := 1545) dL_law_40 (by omega) (by omega) (by rw [c23]; rfl) (by decide) ?_
        refine ev_aload_n dL_law_1545 1 rfl rfl ?_
        refine ev_aload_n dL_law_1546 0 rfl rfl ?_
        refine ev_iload dL_law_1547 4 rfl ?_
        refine ev_iconst dL_law_1549 (mi_c rfl) ?_
        refine ev_iadd dL_law_1550 ?_
        obtain ⟨v210, g, hD⟩ := bd hD
        refine ew_iald dL_law_1551 g ?_
        refine ev_aload_n dL_law_1552 3 rfl rfl ?_
        obtain ⟨r211, g, hD⟩ := bd hD
        refine ew_callSHv (as := [vr x1, vi v210, vr x3]) (rest := []) dL_law_1553 v_L_doomed w_1176 rfl (Nat.le_of_ble_eq_true rfl) (Nat.le_of_ble_eq_true rfl) (Nat.le_of_ble_eq_true rfl) (ct_L_doomed hnc g) ?_
        refine ev_istore dL_law_1556 (Nat.le_of_ble_eq_true rfl) rfl ?_
        refine ev_aload_n dL_law_1558 3 rfl rfl ?_
        refine ev_aload_n dL_law_1559 1 rfl rfl ?_
        refine ev_iload dL_law_1560 5 rfl ?_
        refine ev_iconst dL_law_1562 (mi_c rfl) ?_
        refine ev_iadd dL_law_1563 ?_
        obtain ⟨v212, g, hD⟩ := bd hD
        refine ew_iald dL_law_1564 g ?_
        obtain ⟨_, g0, hD⟩ := bd hD
        obtain ⟨r213, g, hD⟩ := bd hD
        refine ew_callVv (as := [vi v212]) (a := x2) (rest := []) dL_law_1565 v_X9_doomed w_1811 rfl (Nat.le_of_ble_eq_true rfl) rfl rfl g0 (Nat.le_of_ble_eq_true rfl) (Nat.le_of_ble_eq_true rfl) (ct_X9_doomed g) ?_
        refine ev_istore dL_law_1568 (Nat.le_of_ble_eq_true rfl) rfl ?_
        refine ev_aload_n dL_law_1570 4 rfl rfl ?_
        obtain ⟨_, g0, hD⟩ := bd hD
        obtain ⟨r214, g, hD⟩ := bd hD
        refine ew_callVv (as := []) (a := x2) (rest := []) dL_law_1571 v_X9_thrown w_1253 rfl (Nat.le_of_ble_eq_true rfl) rfl rfl g0 (Nat.le_of_ble_eq_true rfl) (Nat.le_of_ble_eq_true rfl) (ct_X9_thrown g) ?_
        refine ev_iload dL_law_1574 1 rfl ?_
        by_cases c : r214 = r211.1
        · rw [if_pos c] at hD
          refine ev_icmp_eq_t (tgt := 1581) dL_law_1576 (by decide) c ?_
          refine ev_iload dL_law_1581 1 rfl ?_
          by_cases c : r211.1 ≠ 0
          · rw [if_pos c] at hD
            refine ev_if_ne_t (tgt := 1598) dL_law_1583 (by decide) c ?_
            refine Ev.pick [2, 3, 4, 5, 6] rfl ?_
            exact lk_L_law_1598 hnc hD hrec hk
          · rw [if_neg c] at hD
            refine ev_if_ne_f 1598 dL_law_1583 (by decide) c ?_
            refine ev_aload_n dL_law_1586 5 rfl rfl ?_
            refine ev_iconst dL_law_1587 (mi_c rfl) ?_
            obtain ⟨v215, g, hD⟩ := bd hD
            refine ew_lald dL_law_1588 g ?_
            refine ev_iload dL_law_1589 0 rfl ?_
            refine ev_i2l dL_law_1591 ?_
            refine ev_lcmp dL_law_1592 ?_
            by_cases c : (mlcmp v215 (mi2l r213.1)) = 0
            · rw [if_pos c] at hD
              refine ev_if_eq_t (tgt := 1598) dL_law_1593 (by decide) c ?_
              refine Ev.pick [2, 3, 4, 5, 6] rfl ?_
              exact lk_L_law_1598 hnc hD hrec hk
            · rw [if_neg c] at hD
              refine ev_if_eq_f 1598 dL_law_1593 (by decide) c ?_
              refine ev_iconst dL_law_1596 (mi_c rfl) ?_
              obtain ⟨v216, gb, hD⟩ := bd hD
              cases hD
              obtain ⟨rfl, rfl⟩ := hk.2 _ rfl
              exact ew_retb dL_law_1597 rfl gb
        · rw [if_neg c] at hD
          refine ev_icmp_eq_f 1581 dL_law_1576 (by decide) c ?_
          refine ev_iconst dL_law_1579 (mi_c rfl) ?_
          obtain ⟨v217, gb, hD⟩ := bd hD
          cases hD
          obtain ⟨rfl, rfl⟩ := hk.2 _ rfl
          exact ew_retb dL_law_1580 rfl gb
      rw [if_neg c23] at hD
      by_cases c24 : (mand v2 31) = 24
      · rw [if_pos c24] at hD
        refine ev_tableIn (off := 1561) (tgt := 1601) dL_law_40 (by omega) (by omega) (by rw [c24]; rfl) (by decide) ?_
        refine ev_aload_n dL_law_1601 1 rfl rfl ?_
        refine ev_aload_n dL_law_1602 0 rfl rfl ?_
        refine ev_iload dL_law_1603 4 rfl ?_
        refine ev_iconst dL_law_1605 (mi_c rfl) ?_
        refine ev_iadd dL_law_1606 ?_
        obtain ⟨v218, g, hD⟩ := bd hD
        refine ew_iald dL_law_1607 g ?_
        refine ev_aload_n dL_law_1608 0 rfl rfl ?_
        refine ev_iload dL_law_1609 4 rfl ?_
        refine ev_iconst dL_law_1611 (mi_c rfl) ?_
        refine ev_iadd dL_law_1612 ?_
        obtain ⟨v219, g, hD⟩ := bd hD
        refine ew_iald dL_law_1613 g ?_
        refine ev_aload_n dL_law_1614 3 rfl rfl ?_
        obtain ⟨r220, g, hD⟩ := bd hD
        refine ew_callSHv (as := [vr x1, vi v218, vi v219, vr x3]) (rest := []) dL_law_1615 v_L_phase w_1187 rfl (Nat.le_of_ble_eq_true rfl) (Nat.le_of_ble_eq_true rfl) (Nat.le_of_ble_eq_true rfl) (ct_L_phase hnc g) ?_
        refine ev_istore dL_law_1618 (Nat.le_of_ble_eq_true rfl) rfl ?_
        refine ev_aload_n dL_law_1620 3 rfl rfl ?_
        refine ev_aload_n dL_law_1621 1 rfl rfl ?_
        refine ev_iload dL_law_1622 5 rfl ?_
        refine ev_iconst dL_law_1624 (mi_c rfl) ?_
        refine ev_iadd dL_law_1625 ?_
        obtain ⟨v221, g, hD⟩ := bd hD
        refine ew_iald dL_law_1626 g ?_
        refine ev_aload_n dL_law_1627 1 rfl rfl ?_
        refine ev_iload dL_law_1628 5 rfl ?_
        refine ev_iconst dL_law_1630 (mi_c rfl) ?_
        refine ev_iadd dL_law_1631 ?_
        obtain ⟨v222, g, hD⟩ := bd hD
        refine ew_iald dL_law_1632 g ?_
        obtain ⟨_, g0, hD⟩ := bd hD
        obtain ⟨r223, g, hD⟩ := bd hD
        refine ew_callVv (as := [vi v221, vi v222]) (a := x2) (rest := []) dL_law_1633 v_X9_phase w_1815 rfl (Nat.le_of_ble_eq_true rfl) rfl rfl g0 (Nat.le_of_ble_eq_true rfl) (Nat.le_of_ble_eq_true rfl) (ct_X9_phase g) ?_
        refine ev_istore dL_law_1636 (Nat.le_of_ble_eq_true rfl) rfl ?_
        refine ev_aload_n dL_law_1638 4 rfl rfl ?_
        obtain ⟨_, g0, hD⟩ := bd hD
        obtain ⟨r224, g, hD⟩ := bd hD
        refine ew_callVv (as := []) (a := x2) (rest := []) dL_law_1639 v_X9_thrown w_1253 rfl (Nat.le_of_ble_eq_true rfl) rfl rfl g0 (Nat.le_of_ble_eq_true rfl) (Nat.le_of_ble_eq_true rfl) (ct_X9_thrown g) ?_
        refine ev_iload dL_law_1642 1 rfl ?_
        by_cases c : r224 = r220.1
        · rw [if_pos c] at hD
          refine ev_icmp_eq_t (tgt := 1649) dL_law_1644 (by decide) c ?_
          refine ev_iload dL_law_1649 1 rfl ?_
          by_cases c : r220.1 ≠ 0
          · rw [if_pos c] at hD
            refine ev_if_ne_t (tgt := 1666) dL_law_1651 (by decide) c ?_
            refine Ev.pick [2, 3, 4, 5, 6] rfl ?_
            exact lk_L_law_1666 hnc hD hrec hk
          · rw [if_neg c] at hD
            refine ev_if_ne_f 1666 dL_law_1651 (by decide) c ?_
            refine ev_aload_n dL_law_1654 5 rfl rfl ?_
            refine ev_iconst dL_law_1655 (mi_c rfl) ?_
            obtain ⟨v225, g, hD⟩ := bd hD
            refine ew_lald dL_law_1656 g ?_
            refine ev_iload dL_law_1657 0 rfl ?_
            refine ev_i2l dL_law_1659 ?_
            refine ev_lcmp dL_law_1660 ?_
            by_cases c : (mlcmp v225 (mi2l r223.1)) = 0
            · rw [if_pos c] at hD
              refine ev_if_eq_t (tgt := 1666) dL_law_1661 (by decide) c ?_
              refine Ev.pick [2, 3, 4, 5, 6] rfl ?_
              exact lk_L_law_1666 hnc hD hrec hk
            · rw [if_neg c] at hD
              refine ev_if_eq_f 1666 dL_law_1661 (by decide) c ?_
              refine ev_iconst dL_law_1664 (mi_c rfl) ?_
              obtain ⟨v226, gb, hD⟩ := bd hD
              cases hD
              obtain ⟨rfl, rfl⟩ := hk.2 _ rfl
              exact ew_retb dL_law_1665 rfl gb
        · rw [if_neg c] at hD
          refine ev_icmp_eq_f 1649 dL_law_1644 (by decide) c ?_
          refine ev_iconst dL_law_1647 (mi_c rfl) ?_
          obtain ⟨v227, gb, hD⟩ := bd hD
          cases hD
          obtain ⟨rfl, rfl⟩ := hk.2 _ rfl
          exact ew_retb dL_law_1648 rfl gb
      rw [if_neg c24] at hD
      by_cases c25 : (mand v2 31) = 25
      · rw [if_pos c25] at hD
        refine ev_tableIn (off := 1629) (tgt := 1669) dL_law_40 (by omega) (by omega) (by rw [c25]; rfl) (by decide) ?_
        refine ev_aload_n dL_law_1669 1 rfl rfl ?_
        refine ev_aload_n dL_law_1670 0 rfl rfl ?_
        refine ev_iload dL_law_1671 4 rfl ?_
        refine ev_iconst dL_law_1673 (mi_c rfl) ?_
        refine ev_iadd dL_law_1674 ?_
        obtain ⟨v228, g, hD⟩ := bd hD
        refine ew_iald dL_law_1675 g ?_
        refine ev_aload_n dL_law_1676 0 rfl rfl ?_
        refine ev_iload dL_law_1677 4 rfl ?_
        refine ev_iconst dL_law_1679 (mi_c rfl) ?_
        refine ev_iadd dL_law_1680 ?_
        obtain ⟨v229, g, hD⟩ := bd hD
        refine ew_iald dL_law_1681 g ?_
        refine ev_aload_n dL_law_1682 3 rfl rfl ?_
        obtain ⟨r230, g, hD⟩ := bd hD
        refine ew_callSHv (as := [vr x1, vi v228, vi v229, vr x3]) (rest := []) dL_law_1683 v_L_member w_1204 rfl (Nat.le_of_ble_eq_true rfl) (Nat.le_of_ble_eq_true rfl) (Nat.le_of_ble_eq_true rfl) (ct_L_member hnc g) ?_
        refine ev_istore dL_law_1686 (Nat.le_of_ble_eq_true rfl) rfl ?_
        refine ev_aload_n dL_law_1688 3 rfl rfl ?_
        refine ev_aload_n dL_law_1689 1 rfl rfl ?_
        refine ev_iload dL_law_1690 5 rfl ?_
        refine ev_iconst dL_law_1692 (mi_c rfl) ?_
        refine ev_iadd dL_law_1693 ?_
        obtain ⟨v231, g, hD⟩ := bd hD
        refine ew_iald dL_law_1694 g ?_
        refine ev_aload_n dL_law_1695 1 rfl rfl ?_
        refine ev_iload dL_law_1696 5 rfl ?_
        refine ev_iconst dL_law_1698 (mi_c rfl) ?_
        refine ev_iadd dL_law_1699 ?_
        obtain ⟨v232, g, hD⟩ := bd hD
        refine ew_iald dL_law_1700 g ?_
        obtain ⟨_, g0, hD⟩ := bd hD
        obtain ⟨r233, g, hD⟩ := bd hD
        refine ew_callVv (as := [vi v231, vi v232]) (a := x2) (rest := []) dL_law_1701 v_X9_member w_1823 rfl (Nat.le_of_ble_eq_true rfl) rfl rfl g0 (Nat.le_of_ble_eq_true rfl) (Nat.le_of_ble_eq_true rfl) (ct_X9_member g) ?_
        refine ev_istore dL_law_1704 (Nat.le_of_ble_eq_true rfl) rfl ?_
        refine ev_aload_n dL_law_1706 4 rfl rfl ?_
        obtain ⟨_, g0, hD⟩ := bd hD
        obtain ⟨r234, g, hD⟩ := bd hD
        refine ew_callVv (as := []) (a := x2) (rest := []) dL_law_1707 v_X9_thrown w_1253 rfl (Nat.le_of_ble_eq_true rfl) rfl rfl g0 (Nat.le_of_ble_eq_true rfl) (Nat.le_of_ble_eq_true rfl) (ct_X9_thrown g) ?_
        refine ev_iload dL_law_1710 1 rfl ?_
        by_cases c : r234 = r230.1
        · rw [if_pos c] at hD
          refine ev_icmp_eq_t (tgt := 1717) dL_law_1712 (by decide) c ?_
          refine ev_iload dL_law_1717 1 rfl ?_
          by_cases c : r230.1 ≠ 0
          · rw [if_pos c] at hD
            refine ev_if_ne_t (tgt := 1734) dL_law_1719 (by decide) c ?_
            refine Ev.pick [2, 3, 4, 5, 6] rfl ?_
            exact lk_L_law_1734 hnc hD hrec hk
          · rw [if_neg c] at hD
            refine ev_if_ne_f 1734 dL_law_1719 (by decide) c ?_
            refine ev_aload_n dL_law_1722 5 rfl rfl ?_
            refine ev_iconst dL_law_1723 (mi_c rfl) ?_
            obtain ⟨v235, g, hD⟩ := bd hD
            refine ew_lald dL_law_1724 g ?_
            refine ev_iload dL_law_1725 0 rfl ?_
            refine ev_i2l dL_law_1727 ?_
            refine ev_lcmp dL_law_1728 ?_
            by_cases c : (mlcmp v235 (mi2l r233.1)) = 0
            · rw [if_pos c] at hD
              refine ev_if_eq_t (tgt := 1734) dL_law_1729 (by decide) c ?_
              refine Ev.pick [2, 3, 4, 5, 6] rfl ?_
              exact lk_L_law_1734 hnc hD hrec hk
            · rw [if_neg c] at hD
              refine ev_if_eq_f 1734 dL_law_1729 (by decide) c ?_
              refine ev_iconst dL_law_1732 (mi_c rfl) ?_
              obtain ⟨v236, gb, hD⟩ := bd hD
              cases hD
              obtain ⟨rfl, rfl⟩ := hk.2 _ rfl
              exact ew_retb dL_law_1733 rfl gb
        · rw [if_neg c] at hD
          refine ev_icmp_eq_f 1717 dL_law_1712 (by decide) c ?_
          refine ev_iconst dL_law_1715 (mi_c rfl) ?_
          obtain ⟨v237, gb, hD⟩ := bd hD
          cases hD
          obtain ⟨rfl, rfl⟩ := hk.2 _ rfl
          exact ew_retb dL_law_1716 rfl gb
      rw [if_neg c25] at hD
      by_cases c26 : (mand v2 31) = 26
      · rw [if_pos c26] at hD
        refine ev_tableIn (off := 1697) (tgt := 1737) dL_law_40 (by omega) (by omega) (by rw [c26]; rfl) (by decide) ?_
        refine ev_aload_n dL_law_1737 1 rfl rfl ?_
        refine ev_aload_n dL_law_1738 0 rfl rfl ?_
        refine ev_iload dL_law_1739 4 rfl ?_
        refine ev_iconst dL_law_1741 (mi_c rfl) ?_
        refine ev_iadd dL_law_1742 ?_
        obtain ⟨v238, g, hD⟩ := bd hD
        refine ew_iald dL_law_1743 g ?_
        refine ev_aload_n dL_law_1744 3 rfl rfl ?_
        obtain ⟨r239, g, hD⟩ := bd hD
        refine ew_callSHv (as := [vr x1, vi v238, vr x3]) (rest := []) dL_law_1745 v_L_trial w_1211 rfl (Nat.le_of_ble_eq_true rfl) (Nat.le_of_ble_eq_true rfl) (Nat.le_of_ble_eq_true rfl) (ct_L_trial hnc g) ?_
        refine ev_istore dL_law_1748 (Nat.le_of_ble_eq_true rfl) rfl ?_
        refine ev_aload_n dL_law_1750 3 rfl rfl ?_
        refine ev_aload_n dL_law_1751 1 rfl rfl ?_
        refine ev_iload dL_law_1752 5 rfl ?_
        refine ev_iconst dL_law_1754 (mi_c rfl) ?_
        refine ev_iadd dL_law_1755 ?_
        obtain ⟨v240, g, hD⟩ := bd hD
        refine ew_iald dL_law_1756 g ?_
        obtain ⟨_, g0, hD⟩ := bd hD
        obtain ⟨r241, g, hD⟩ := bd hD
        refine ew_callVv (as := [vi v240]) (a := x2) (rest := []) dL_law_1757 v_X9_trial w_1827 rfl (Nat.le_of_ble_eq_true rfl) rfl rfl g0 (Nat.le_of_ble_eq_true rfl) (Nat.le_of_ble_eq_true rfl) (ct_X9_trial g) ?_
        refine ev_istore dL_law_1760 (Nat.le_of_ble_eq_true rfl) rfl ?_
        refine ev_aload_n dL_law_1762 4 rfl rfl ?_
        obtain ⟨_, g0, hD⟩ := bd hD
        obtain ⟨r242, g, hD⟩ := bd hD
        refine ew_callVv (as := []) (a := x2) (rest := []) dL_law_1763 v_X9_thrown w_1253 rfl (Nat.le_of_ble_eq_true rfl) rfl rfl g0 (Nat.le_of_ble_eq_true rfl) (Nat.le_of_ble_eq_true rfl) (ct_X9_thrown g) ?_
        refine ev_iload dL_law_1766 1 rfl ?_
        by_cases c : r242 = r239.1
        · rw [if_pos c] at hD
          refine ev_icmp_eq_t (tgt := 1773) dL_law_1768 (by decide) c ?_
          refine ev_iload dL_law_1773 1 rfl ?_
          by_cases c : r239.1 ≠ 0
          · rw [if_pos c] at hD
            refine ev_if_ne_t (tgt := 1790) dL_law_1775 (by decide) c ?_
            refine Ev.pick [2, 3, 4, 5, 6] rfl ?_
            exact lk_L_law_1790 hnc hD hrec hk
          · rw [if_neg c] at hD
            refine ev_if_ne_f 1790 dL_law_1775 (by decide) c ?_
            refine ev_aload_n dL_law_1778 5 rfl rfl ?_
            refine ev_iconst dL_law_1779 (mi_c rfl) ?_
            obtain ⟨v243, g, hD⟩ := bd hD
            refine ew_lald dL_law_1780 g ?_
            refine ev_iload dL_law_1781 0 rfl ?_
            refine ev_i2l dL_law_1783 ?_
            refine ev_lcmp dL_law_1784 ?_
            by_cases c : (mlcmp v243 (mi2l r241.1)) = 0
            · rw [if_pos c] at hD
              refine ev_if_eq_t (tgt := 1790) dL_law_1785 (by decide) c ?_
              refine Ev.pick [2, 3, 4, 5, 6] rfl ?_
              exact lk_L_law_1790 hnc hD hrec hk
            · rw [if_neg c] at hD
              refine ev_if_eq_f 1790 dL_law_1785 (by decide) c ?_
              refine ev_iconst dL_law_1788 (mi_c rfl) ?_
              obtain ⟨v244, gb, hD⟩ := bd hD
              cases hD
              obtain ⟨rfl, rfl⟩ := hk.2 _ rfl
              exact ew_retb dL_law_1789 rfl gb
        · rw [if_neg c] at hD
          refine ev_icmp_eq_f 1773 dL_law_1768 (by decide) c ?_
          refine ev_iconst dL_law_1771 (mi_c rfl) ?_
          obtain ⟨v245, gb, hD⟩ := bd hD
          cases hD
          obtain ⟨rfl, rfl⟩ := hk.2 _ rfl
          exact ew_retb dL_law_1772 rfl gb
      rw [if_neg c26] at hD
      by_cases c27 : (mand v2 31) = 27
      · rw [if_pos c27] at hD
        refine ev_tableIn (off := 1753) (tgt := 1793) dL_law_40 (by omega) (by omega) (by rw [c27]; rfl) (by decide) ?_
        refine ev_aload_n dL_law_1793 1 rfl rfl ?_
        refine ev_aload_n dL_law_1794 0 rfl rfl ?_
        refine ev_iload dL_law_1795 4 rfl ?_
        refine ev_iconst dL_law_1797 (mi_c rfl) ?_
        refine ev_iadd dL_law_1798 ?_
        obtain ⟨v246, g, hD⟩ := bd hD
        refine ew_iald dL_law_1799 g ?_
        refine ev_aload_n dL_law_1800 3 rfl rfl ?_
        obtain ⟨r247, g, hD⟩ := bd hD
        refine ew_callSHv (as := [vr x1, vi v246, vr x3]) (rest := []) dL_law_1801 v_L_tried w_1246 rfl (Nat.le_of_ble_eq_true rfl) (Nat.le_of_ble_eq_true rfl) (Nat.le_of_ble_eq_true rfl) (ct_L_tried hnc g) ?_
        refine ev_istore dL_law_1804 (Nat.le_of_ble_eq_true rfl) rfl ?_
        refine ev_aload_n dL_law_1806 3 rfl rfl ?_
        refine ev_aload_n dL_law_1807 1 rfl rfl ?_
        refine ev_iload dL_law_1808 5 rfl ?_
        refine ev_iconst dL_law_1810 (mi_c rfl) ?_
        refine ev_iadd dL_law_1811 ?_
        obtain ⟨v248, g, hD⟩ := bd hD
        refine ew_iald dL_law_1812 g ?_
        obtain ⟨_, g0, hD⟩ := bd hD
        obtain ⟨r249, g, hD⟩ := bd hD
        refine ew_callVv (as := [vi v248]) (a := x2) (rest := []) dL_law_1813 v_X9_tried w_1847 rfl (Nat.le_of_ble_eq_true rfl) rfl rfl g0 (Nat.le_of_ble_eq_true rfl) (Nat.le_of_ble_eq_true rfl) (ct_X9_tried g) ?_
        refine ev_istore dL_law_1816 (Nat.le_of_ble_eq_true rfl) rfl ?_
        refine ev_aload_n dL_law_1818 4 rfl rfl ?_
        obtain ⟨_, g0, hD⟩ := bd hD
        obtain ⟨r250, g, hD⟩ := bd hD
        refine ew_callVv (as := []) (a := x2) (rest := []) dL_law_1819 v_X9_thrown w_1253 rfl (Nat.le_of_ble_eq_true rfl) rfl rfl g0 (Nat.le_of_ble_eq_true rfl) (Nat.le_of_ble_eq_true rfl) (ct_X9_thrown g) ?_
        refine ev_iload dL_law_1822 1 rfl ?_
        by_cases c : r250 = r247.1
        · rw [if_pos c] at hD
          refine ev_icmp_eq_t (tgt := 1829) dL_law_1824 (by decide) c ?_
          refine ev_iload dL_law_1829 1 rfl ?_
          by_cases c : r247.1 ≠ 0
          · rw [if_pos c] at hD
            refine ev_if_ne_t (tgt := 1846) dL_law_1831 (by decide) c ?_
            refine Ev.pick [2, 3, 4, 5, 6] rfl ?_
            exact lk_L_law_1846 hnc hD hrec hk
          · rw [if_neg c] at hD
            refine ev_if_ne_f 1846 dL_law_1831 (by decide) c ?_
            refine ev_aload_n dL_law_1834 5 rfl rfl ?_
            refine ev_iconst dL_law_1835 (mi_c rfl) ?_
            obtain ⟨v251, g, hD⟩ := bd hD
            refine ew_lald dL_law_1836 g ?_
            refine ev_iload dL_law_1837 0 rfl ?_
            refine ev_i2l dL_law_1839 ?_
            refine ev_lcmp dL_law_1840 ?_
            by_cases c : (mlcmp v251 (mi2l r249.1)) = 0
            · rw [if_pos c] at hD
              refine ev_if_eq_t (tgt := 1846) dL_law_1841 (by decide) c ?_
              refine Ev.pick [2, 3, 4, 5, 6] rfl ?_
              exact lk_L_law_1846 hnc hD hrec hk
            · rw [if_neg c] at hD
              refine ev_if_eq_f 1846 dL_law_1841 (by decide) c ?_
              refine ev_iconst dL_law_1844 (mi_c rfl) ?_
              obtain ⟨v252, gb, hD⟩ := bd hD
              cases hD
              obtain ⟨rfl, rfl⟩ := hk.2 _ rfl
              exact ew_retb dL_law_1845 rfl gb
        · rw [if_neg c] at hD
          refine ev_icmp_eq_f 1829 dL_law_1824 (by decide) c ?_
          refine ev_iconst dL_law_1827 (mi_c rfl) ?_
          obtain ⟨v253, gb, hD⟩ := bd hD
          cases hD
          obtain ⟨rfl, rfl⟩ := hk.2 _ rfl
          exact ew_retb dL_law_1828 rfl gb
      rw [if_neg c27] at hD
      by_cases c28 : (mand v2 31) = 28
      · rw [if_pos c28] at hD
        refine ev_tableIn (off := 1809) (tgt := 1849) dL_law_40 (by omega) (by omega) (by rw [c28]; rfl) (by decide) ?_
        refine ev_aload_n dL_law_1849 1 rfl rfl ?_
        obtain ⟨_, g0, hD⟩ := bd hD
        obtain ⟨r254, g, hD⟩ := bd hD
        refine ew_callVv (as := []) (a := x1) (rest := []) dL_law_1850 v_X8_loosened w_679 rfl (Nat.le_of_ble_eq_true rfl) rfl rfl g0 (Nat.le_of_ble_eq_true rfl) (Nat.le_of_ble_eq_true rfl) (ct_X8_loosened g) ?_
        refine ev_aload_n dL_law_1853 2 rfl rfl ?_
        obtain ⟨_, g0, hD⟩ := bd hD
        obtain ⟨r255, g, hD⟩ := bd hD
        refine ew_callVv (as := []) (a := x2) (rest := [vi r254.1]) dL_law_1854 v_X9_loosened w_1851 rfl (Nat.le_of_ble_eq_true rfl) rfl rfl g0 (Nat.le_of_ble_eq_true rfl) (Nat.le_of_ble_eq_true rfl) (ct_X9_loosened g) ?_
        by_cases c : r254.1 = r255.1
        · rw [if_pos c] at hD
          refine ev_icmp_eq_t (tgt := 1914) dL_law_1857 (by decide) c ?_
          exact lk_L_law_1914 hnc hD hrec hk
        · rw [if_neg c] at hD
          refine ev_icmp_eq_f 1914 dL_law_1857 (by decide) c ?_
          refine ev_iconst dL_law_1860 (mi_c rfl) ?_
          obtain ⟨v256, gb, hD⟩ := bd hD
          cases hD
          obtain ⟨rfl, rfl⟩ := hk.2 _ rfl
          exact ew_retb dL_law_1861 rfl gb
      rw [if_neg c28] at hD
      by_cases c29 : (mand v2 31) = 29
      · rw [if_pos c29] at hD
        refine ev_tableIn (off := 1822) (tgt := 1862) dL_law_40 (by omega) (by omega) (by rw [c29]; rfl) (by decide) ?_
        refine ev_aload_n dL_law_1862 1 rfl rfl ?_
        obtain ⟨_, g0, hD⟩ := bd hD
        obtain ⟨r257, g, hD⟩ := bd hD
        refine ew_callVv (as := []) (a := x1) (rest := []) dL_law_1863 v_X8_shifted w_687 rfl (Nat.le_of_ble_eq_true rfl) rfl rfl g0 (Nat.le_of_ble_eq_true rfl) (Nat.le_of_ble_eq_true rfl) (ct_X8_shifted g) ?_
        refine ev_aload_n dL_law_1866 2 rfl rfl ?_
        obtain ⟨_, g0, hD⟩ := bd hD
        obtain ⟨r258, g, hD⟩ := bd hD
        refine ew_callVv (as := []) (a := x2) (rest := [vi r257.1]) dL_law_1867 v_X9_shifted w_1855 rfl (Nat.le_of_ble_eq_true rfl) rfl rfl g0 (Nat.le_of_ble_eq_true rfl) (Nat.le_of_ble_eq_true rfl) (ct_X9_shifted g) ?_
        by_cases c : r257.1 = r258.1
        · rw [if_pos c] at hD
          refine ev_icmp_eq_t (tgt := 1914) dL_law_1870 (by decide) c ?_
          exact lk_L_law_1914 hnc hD hrec hk
        · rw [if_neg c] at hD
          refine ev_icmp_eq_f 1914 dL_law_1870 (by decide) c ?_
          refine ev_iconst dL_law_1873 (mi_c rfl) ?_
          obtain ⟨v259, gb, hD⟩ := bd hD
          cases hD
          obtain ⟨rfl, rfl⟩ := hk.2 _ rfl
          exact ew_retb dL_law_1874 rfl gb
      rw [if_neg c29] at hD
      by_cases c30 : (mand v2 31) = 30
      · rw [if_pos c30] at hD
        refine ev_tableIn (off := 1835) (tgt := 1875) dL_law_40 (by omega) (by omega) (by rw [c30]; rfl) (by decide) ?_
        refine ev_aload_n dL_law_1875 1 rfl rfl ?_
        obtain ⟨_, g0, hD⟩ := bd hD
        obtain ⟨r260, g, hD⟩ := bd hD
        refine ew_callVv (as := []) (a := x1) (rest := []) dL_law_1876 v_X8_print w_695 rfl (Nat.le_of_ble_eq_true rfl) rfl rfl g0 (Nat.le_of_ble_eq_true rfl) (Nat.le_of_ble_eq_true rfl) (ct_X8_print g) ?_
        refine ev_aload_n dL_law_1879 2 rfl rfl ?_
        obtain ⟨_, g0, hD⟩ := bd hD
        obtain ⟨r261, g, hD⟩ := bd hD
        refine ew_callVv (as := []) (a := x2) (rest := [vl r260]) dL_law_1880 v_X9_print w_1863 rfl (Nat.le_of_ble_eq_true rfl) rfl rfl g0 (Nat.le_of_ble_eq_true rfl) (Nat.le_of_ble_eq_true rfl) (ct_X9_print g) ?_
        refine ev_lcmp dL_law_1883 ?_
        by_cases c : (mlcmp r260 r261.1) = 0
        · rw [if_pos c] at hD
          refine ev_if_eq_t (tgt := 1914) dL_law_1884 (by decide) c ?_
          exact lk_L_law_1914 hnc hD hrec hk
        · rw [if_neg c] at hD
          refine ev_if_eq_f 1914 dL_law_1884 (by decide) c ?_
          refine ev_iconst dL_law_1887 (mi_c rfl) ?_
          obtain ⟨v262, gb, hD⟩ := bd hD
          cases hD
          obtain ⟨rfl, rfl⟩ := hk.2 _ rfl
          exact ew_retb dL_law_1888 rfl gb
      rw [if_neg c30] at hD
      by_cases c31 : (mand v2 31) = 31
      · rw [if_pos c31] at hD
        refine ev_tableIn (off := 1849) (tgt := 1889) dL_law_40 (by omega) (by omega) (by rw [c31]; rfl) (by decide) ?_
        refine ev_aload_n dL_law_1889 1 rfl rfl ?_
        refine ev_aload_n dL_law_1890 0 rfl rfl ?_
        refine ev_iload dL_law_1891 4 rfl ?_
        refine ev_iconst dL_law_1893 (mi_c rfl) ?_
        refine ev_iadd dL_law_1894 ?_
        obtain ⟨v263, g, hD⟩ := bd hD
        refine ew_iald dL_law_1895 g ?_
        obtain ⟨_, g0, hD⟩ := bd hD
        obtain ⟨r264, g, hD⟩ := bd hD
        refine ew_callVv (as := [vi v263]) (a := x1) (rest := []) dL_law_1896 v_X8_status w_702 rfl (Nat.le_of_ble_eq_true rfl) rfl rfl g0 (Nat.le_of_ble_eq_true rfl) (Nat.le_of_ble_eq_true rfl) (ct_X8_status g) ?_
        refine ev_aload_n dL_law_1899 2 rfl rfl ?_
        refine ev_aload_n dL_law_1900 0 rfl rfl ?_
        refine ev_iload dL_law_1901 4 rfl ?_
        refine ev_iconst dL_law_1903 (mi_c rfl) ?_
        refine ev_iadd dL_law_1904 ?_
        obtain ⟨v265, g, hD⟩ := bd hD
        refine ew_iald dL_law_1905 g ?_
        obtain ⟨_, g0, hD⟩ := bd hD
        obtain ⟨r266, g, hD⟩ := bd hD
        refine ew_callVv (as := [vi v265]) (a := x2) (rest := [vi r264]) dL_law_1906 v_X9_status w_1868 rfl (Nat.le_of_ble_eq_true rfl) rfl rfl g0 (Nat.le_of_ble_eq_true rfl) (Nat.le_of_ble_eq_true rfl) (ct_X9_status g) ?_
        by_cases c : r264 = r266.1
        · rw [if_pos c] at hD
          refine ev_icmp_eq_t (tgt := 1914) dL_law_1909 (by decide) c ?_
          exact lk_L_law_1914 hnc hD hrec hk
        · rw [if_neg c] at hD
          refine ev_icmp_eq_f 1914 dL_law_1909 (by decide) c ?_
          refine ev_iconst dL_law_1912 (mi_c rfl) ?_
          obtain ⟨v267, gb, hD⟩ := bd hD
          cases hD
          obtain ⟨rfl, rfl⟩ := hk.2 _ rfl
          exact ew_retb dL_law_1913 rfl gb
      rw [if_neg c31] at hD
      refine ev_tableOut (tgt := 1914) dL_law_40 (by omega) (by decide) ?_
      exact lk_L_law_1914 hnc hD hrec hk
def D_L_law (x0 : Nat) (σ : mS) : Option (Int × mS) :=
  (nwO σ 7 12).bind fun s1 =>
  (tgN (32 + mN σ)).bind fun _ =>
  (D_X8_init (32 + mN σ) s1).bind fun r2 =>
  (nwO r2 8 53).bind fun s3 =>
  (tgN (32 + mN r2)).bind fun _ =>
  (D_X9_init (32 + mN r2) s3).bind fun r4 =>
  (nwA r4 1 1).bind fun s5 =>
  (D_L_law_23 mFU x0 (32 + mN σ) (32 + mN r2) (32 + mN r4) 0 s5).bind fun r6 =>
  match r6 with
  | (Sum.inl z7) =>
    (bO 1).bind fun v8 =>
    some (v8, z7)
  | (Sum.inr z9) =>
    some (z9.1, z9.2)
set_option maxRecDepth 100000 in
set_option maxHeartbeats 4000000 in
theorem lk_L_law {G : mG} {x0 : Nat} {σ : mS} {R : (Int × mS)} (hnc : ∀ q ∈ mNcs, va_Nc q.1 q.2 G.1) (hD : D_L_law x0 σ = some R) : Ev G M_L_law 0 [(0, vr x0)] [] σ (.inl (some (vi R.1))) R.2 := by
  unfold D_L_law at hD
  obtain ⟨s1, g, hD⟩ := bd hD
  refine ew_new 7 dL_law_0 rfl in_X8 tyX8_ok dv_X8 w_149 w_150 w_124 g ?_
  refine ev_dup dL_law_3 rfl ?_
  obtain ⟨_, g0, hD⟩ := bd hD
  obtain ⟨r2, g, hD⟩ := bd hD
  refine ew_callI (as := []) (a := (32 + mN σ)) (rest := [vr (32 + mN σ)]) dL_law_4 v_X8_init w_151 rfl (Nat.le_of_ble_eq_true rfl) g0 (Nat.le_of_ble_eq_true rfl) (Nat.le_of_ble_eq_true rfl) (ct_X8_init g) ?_
  refine ev_astore_n dL_law_7 rfl (Nat.le_of_ble_eq_true rfl) rfl ?_
  obtain ⟨s3, g, hD⟩ := bd hD
  refine ew_new 8 dL_law_8 rfl in_X9 tyX9_ok dv_X9 w_1257 w_1258 w_138 g ?_
  refine ev_dup dL_law_11 rfl ?_
  obtain ⟨_, g0, hD⟩ := bd hD
  obtain ⟨r4, g, hD⟩ := bd hD
  refine ew_callI (as := []) (a := (32 + mN r2)) (rest := [vr (32 + mN r2)]) dL_law_12 v_X9_init w_1259 rfl (Nat.le_of_ble_eq_true rfl) g0 (Nat.le_of_ble_eq_true rfl) (Nat.le_of_ble_eq_true rfl) (ct_X9_init g) ?_
  refine ev_astore_n dL_law_15 rfl (Nat.le_of_ble_eq_true rfl) rfl ?_
  refine ev_iconst dL_law_16 (mi_c rfl) ?_
  obtain ⟨s5, g, hD⟩ := bd hD
  refine ew_newa 1 dL_law_17 rfl rfl (by decide +kernel) (by decide +kernel) w_443 g ?_
  refine ev_astore_n dL_law_19 rfl (Nat.le_of_ble_eq_true rfl) rfl ?_
  refine ev_iconst dL_law_20 (mi_c rfl) ?_
  refine ev_istore dL_law_21 (Nat.le_of_ble_eq_true rfl) rfl ?_
  obtain ⟨r6, g, hD⟩ := bd hD
  refine Ev.pick [4, 3, 2, 1, 0] rfl ?_
  rcases r6 with z7 | z9
  · refine lk_L_law_23 hnc mFU g ⟨(fun _ hz => ?_), (fun _ hz => nomatch hz)⟩
    cases hz
    refine ev_iconst dL_law_1920 (mi_c rfl) ?_
    obtain ⟨v8, gb, hD⟩ := bd hD
    cases hD
    exact ew_retb dL_law_1921 rfl gb
  · refine lk_L_law_23 hnc mFU g ⟨(fun _ hz => nomatch hz), (fun _ hz => ?_)⟩
    cases hz
    cases hD
    exact ⟨rfl, rfl⟩
theorem ct_L_law {G : mG} {x0 : Nat} {σ : mS} {R : (Int × mS)} (hnc : ∀ q ∈ mNcs, va_Nc q.1 q.2 G.1) (hD : D_L_law x0 σ = some R) : Ct G M_L_law [vr x0] σ (.inl (some (vi R.1))) R.2 := ct_of rfl (by decide +kernel) rfl (Nat.le_of_ble_eq_true rfl) rfl (lk_L_law hnc hD)
