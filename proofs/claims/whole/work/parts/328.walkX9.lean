def D_X9_curve_119 (rec : Nat → Int → Int → mS → Option ((Int × mS) ⊕ mS)) (x0 : Nat) (x1 : Int) (x2 : Int) (σ : mS) : Option ((Int × mS) ⊕ mS) :=
  (gI σ x0 8 42).bind fun v1 =>
  if v1 ≤ 0 then
    rec x0 x1 x2 σ
  else
    some (Sum.inr σ)
set_option maxRecDepth 100000 in
set_option maxHeartbeats 4000000 in
theorem lk_X9_curve_119 {G : mG} {rec : Nat → Int → Int → mS → Option ((Int × mS) ⊕ mS)} {x0 : Nat} {x1 : Int} {x2 : Int} {σ : mS} {R : ((Int × mS) ⊕ mS)} {r : mX} {τ : mS} (hD : D_X9_curve_119 rec x0 x1 x2 σ = some R) (hrec : ∀ {x0 : Nat} {x1 : Int} {x2 : Int} {σ : mS} {R : ((Int × mS) ⊕ mS)}, rec x0 x1 x2 σ = some R → ∀ {r : mX} {τ : mS}, (∀ z, R = (Sum.inl z) → Ev G M_X9_curve 130 [(0, vr x0), (1, vi (z.1))] [] z.2 r τ) ∧ (∀ z, R = (Sum.inr z) → r = .inl none ∧ τ = z) → Ev G M_X9_curve 4 [(0, vr x0), (1, vi x1), (2, vi x2)] [] σ r τ) (hk : (∀ z, R = (Sum.inl z) → Ev G M_X9_curve 130 [(0, vr x0), (1, vi (z.1))] [] z.2 r τ) ∧ (∀ z, R = (Sum.inr z) → r = .inl none ∧ τ = z)) : Ev G M_X9_curve 119 [(0, vr x0), (1, vi x1), (2, vi x2)] [] σ r τ := by
  unfold D_X9_curve_119 at hD
  refine ev_aload_n dX9_curve_119 0 rfl rfl ?_
  obtain ⟨v1, g, hD⟩ := bd hD
  refine ew_getI 8 42 dX9_curve_120 rfl (Nat.le_of_ble_eq_true rfl) w_1307 in_X9 rfl g ?_
  by_cases c : v1 ≤ 0
  · rw [if_pos c] at hD
    refine ev_if_le_t (tgt := 127) dX9_curve_123 (by decide) c ?_
    refine ev_goto (tgt := 4) dX9_curve_127 (by decide) ?_
    exact hrec hD hk
  · rw [if_neg c] at hD
    refine ev_if_le_f 127 dX9_curve_123 (by decide) c ?_
    cases hD
    obtain ⟨rfl, rfl⟩ := hk.2 _ rfl
    exact ev_ret none dX9_curve_126 True.intro
def D_X9_curve_109 (rec : Nat → Int → Int → mS → Option ((Int × mS) ⊕ mS)) (x0 : Nat) (x1 : Int) (x2 : Int) (σ : mS) : Option ((Int × mS) ⊕ mS) :=
  if x2 = 0 then
    D_X9_curve_119 rec x0 x1 x2 σ
  else
    (tgO σ x0 8).bind fun _ =>
    (D_X9_must x0 44 σ).bind fun r1 =>
    D_X9_curve_119 rec x0 x1 x2 r1
set_option maxRecDepth 100000 in
set_option maxHeartbeats 4000000 in
theorem lk_X9_curve_109 {G : mG} {rec : Nat → Int → Int → mS → Option ((Int × mS) ⊕ mS)} {x0 : Nat} {x1 : Int} {x2 : Int} {σ : mS} {R : ((Int × mS) ⊕ mS)} {r : mX} {τ : mS} (hD : D_X9_curve_109 rec x0 x1 x2 σ = some R) (hrec : ∀ {x0 : Nat} {x1 : Int} {x2 : Int} {σ : mS} {R : ((Int × mS) ⊕ mS)}, rec x0 x1 x2 σ = some R → ∀ {r : mX} {τ : mS}, (∀ z, R = (Sum.inl z) → Ev G M_X9_curve 130 [(0, vr x0), (1, vi (z.1))] [] z.2 r τ) ∧ (∀ z, R = (Sum.inr z) → r = .inl none ∧ τ = z) → Ev G M_X9_curve 4 [(0, vr x0), (1, vi x1), (2, vi x2)] [] σ r τ) (hk : (∀ z, R = (Sum.inl z) → Ev G M_X9_curve 130 [(0, vr x0), (1, vi (z.1))] [] z.2 r τ) ∧ (∀ z, R = (Sum.inr z) → r = .inl none ∧ τ = z)) : Ev G M_X9_curve 109 [(0, vr x0), (1, vi x1), (2, vi x2)] [] σ r τ := by
  unfold D_X9_curve_109 at hD
  refine ev_iload_n dX9_curve_109 2 rfl rfl ?_
  by_cases c : x2 = 0
  · rw [if_pos c] at hD
    refine ev_if_eq_t (tgt := 119) dX9_curve_110 (by decide) c ?_
    exact lk_X9_curve_119 hD hrec hk
  · rw [if_neg c] at hD
    refine ev_if_eq_f 119 dX9_curve_110 (by decide) c ?_
    refine ev_aload_n dX9_curve_113 0 rfl rfl ?_
    refine ev_bp dX9_curve_114 rfl ?_
    obtain ⟨_, g0, hD⟩ := bd hD
    obtain ⟨r1, g, hD⟩ := bd hD
    refine ew_callV0 (as := [vi 44]) (a := x0) (rest := []) dX9_curve_116 v_X9_must w_1494 rfl (Nat.le_of_ble_eq_true rfl) rfl rfl g0 (Nat.le_of_ble_eq_true rfl) (Nat.le_of_ble_eq_true rfl) (ct_X9_must g) ?_
    exact lk_X9_curve_119 hD hrec hk
def D_X9_curve_89 (rec : Nat → Int → Int → mS → Option ((Int × mS) ⊕ mS)) (x0 : Nat) (x1 : Int) (y0 : Int) (σ : mS) : Option ((Int × mS) ⊕ mS) :=
  if y0 = 0 then
    D_X9_curve_109 rec x0 x1 y0 σ
  else
    if x1 ≠ 16 then
      D_X9_curve_109 rec x0 x1 y0 σ
    else
      (gI σ x0 8 39).bind fun v1 =>
      (tgO σ x0 8).bind fun _ =>
      (D_X9_wrong x0 3 v1 σ).bind fun r2 =>
      D_X9_curve_109 rec x0 x1 y0 r2
set_option maxRecDepth 100000 in
set_option maxHeartbeats 4000000 in
theorem lk_X9_curve_89 {G : mG} {rec : Nat → Int → Int → mS → Option ((Int × mS) ⊕ mS)} {x0 : Nat} {x1 : Int} {y0 : Int} {σ : mS} {R : ((Int × mS) ⊕ mS)} {r : mX} {τ : mS} (hD : D_X9_curve_89 rec x0 x1 y0 σ = some R) (hrec : ∀ {x0 : Nat} {x1 : Int} {x2 : Int} {σ : mS} {R : ((Int × mS) ⊕ mS)}, rec x0 x1 x2 σ = some R → ∀ {r : mX} {τ : mS}, (∀ z, R = (Sum.inl z) → Ev G M_X9_curve 130 [(0, vr x0), (1, vi (z.1))] [] z.2 r τ) ∧ (∀ z, R = (Sum.inr z) → r = .inl none ∧ τ = z) → Ev G M_X9_curve 4 [(0, vr x0), (1, vi x1), (2, vi x2)] [] σ r τ) (hk : (∀ z, R = (Sum.inl z) → Ev G M_X9_curve 130 [(0, vr x0), (1, vi (z.1))] [] z.2 r τ) ∧ (∀ z, R = (Sum.inr z) → r = .inl none ∧ τ = z)) : Ev G M_X9_curve 89 [(0, vr x0), (1, vi x1)] [vi y0] σ r τ := by
  unfold D_X9_curve_89 at hD
  refine ev_istore_n dX9_curve_89 rfl (Nat.le_of_ble_eq_true rfl) rfl ?_
  refine ev_iload_n dX9_curve_90 0 rfl rfl ?_
  by_cases c : y0 = 0
  · rw [if_pos c] at hD
    refine ev_if_eq_t (tgt := 109) dX9_curve_91 (by decide) c ?_
    refine Ev.pick [1, 2, 0] rfl ?_
    exact lk_X9_curve_109 hD hrec hk
  · rw [if_neg c] at hD
    refine ev_if_eq_f 109 dX9_curve_91 (by decide) c ?_
    refine ev_iload_n dX9_curve_94 2 rfl rfl ?_
    refine ev_bp dX9_curve_95 rfl ?_
    by_cases c : x1 ≠ 16
    · rw [if_pos c] at hD
      refine ev_icmp_ne_t (tgt := 109) dX9_curve_97 (by decide) c ?_
      refine Ev.pick [1, 2, 0] rfl ?_
      exact lk_X9_curve_109 hD hrec hk
    · rw [if_neg c] at hD
      refine ev_icmp_ne_f 109 dX9_curve_97 (by decide) c ?_
      refine ev_aload_n dX9_curve_100 1 rfl rfl ?_
      refine ev_iconst dX9_curve_101 (mi_c rfl) ?_
      refine ev_aload_n dX9_curve_102 1 rfl rfl ?_
      obtain ⟨v1, g, hD⟩ := bd hD
      refine ew_getI 8 39 dX9_curve_103 rfl (Nat.le_of_ble_eq_true rfl) w_1304 in_X9 rfl g ?_
      obtain ⟨_, g0, hD⟩ := bd hD
      obtain ⟨r2, g, hD⟩ := bd hD
      refine ew_callV0 (as := [vi 3, vi v1]) (a := x0) (rest := []) dX9_curve_106 v_X9_wrong w_1472 rfl (Nat.le_of_ble_eq_true rfl) rfl rfl g0 (Nat.le_of_ble_eq_true rfl) (Nat.le_of_ble_eq_true rfl) (ct_X9_wrong g) ?_
      refine Ev.pick [1, 2, 0] rfl ?_
      exact lk_X9_curve_109 hD hrec hk
def D_X9_curve_84 (rec : Nat → Int → Int → mS → Option ((Int × mS) ⊕ mS)) (x0 : Nat) (x1 : Int) (σ : mS) : Option ((Int × mS) ⊕ mS) :=
  D_X9_curve_89 rec x0 x1 1 σ
set_option maxRecDepth 100000 in
set_option maxHeartbeats 4000000 in
theorem lk_X9_curve_84 {G : mG} {rec : Nat → Int → Int → mS → Option ((Int × mS) ⊕ mS)} {x0 : Nat} {x1 : Int} {σ : mS} {R : ((Int × mS) ⊕ mS)} {r : mX} {τ : mS} (hD : D_X9_curve_84 rec x0 x1 σ = some R) (hrec : ∀ {x0 : Nat} {x1 : Int} {x2 : Int} {σ : mS} {R : ((Int × mS) ⊕ mS)}, rec x0 x1 x2 σ = some R → ∀ {r : mX} {τ : mS}, (∀ z, R = (Sum.inl z) → Ev G M_X9_curve 130 [(0, vr x0), (1, vi (z.1))] [] z.2 r τ) ∧ (∀ z, R = (Sum.inr z) → r = .inl none ∧ τ = z) → Ev G M_X9_curve 4 [(0, vr x0), (1, vi x1), (2, vi x2)] [] σ r τ) (hk : (∀ z, R = (Sum.inl z) → Ev G M_X9_curve 130 [(0, vr x0), (1, vi (z.1))] [] z.2 r τ) ∧ (∀ z, R = (Sum.inr z) → r = .inl none ∧ τ = z)) : Ev G M_X9_curve 84 [(0, vr x0), (1, vi x1)] [] σ r τ := by
  unfold D_X9_curve_84 at hD
  refine ev_iconst dX9_curve_84 (mi_c rfl) ?_
  refine ev_goto (tgt := 89) dX9_curve_85 (by decide) ?_
  exact lk_X9_curve_89 hD hrec hk
def D_X9_curve_27 (rec : Nat → Int → Int → mS → Option ((Int × mS) ⊕ mS)) (x0 : Nat) (x1 : Int) (y0 : Int) (y1 : Nat) (σ : mS) : Option ((Int × mS) ⊕ mS) :=
  (tgO σ y1 8).bind fun _ =>
  (D_X9_number y1 y0 999 σ).bind fun r1 =>
  (tgO r1.2 x0 8).bind fun _ =>
  (D_X9_number x0 0 9999 r1.2).bind fun r2 =>
  (gI r2.2 x0 8 42).bind fun v3 =>
  if v3 ≤ 0 then
    (gR r2.2 x0 8 32).bind fun v4 =>
    (sI r2.2 v4 x1 r1.1).bind fun s5 =>
    (gR s5 x0 8 33).bind fun v6 =>
    (sI s5 v6 x1 r2.1).bind fun s7 =>
    if (mw (x1 + 1)) < 2 then
      D_X9_curve_84 rec x0 (mw (x1 + 1)) s7
    else
      (tgO s7 x0 8).bind fun _ =>
      (D_X9_isSign x0 44 s7).bind fun r8 =>
      if r8.1 = 0 then
        D_X9_curve_89 rec x0 (mw (x1 + 1)) 0 r8.2
      else
        D_X9_curve_84 rec x0 (mw (x1 + 1)) r8.2
  else
    some (Sum.inr r2.2)
set_option maxRecDepth 100000 in
set_option maxHeartbeats 4000000 in
theorem lk_X9_curve_27 {G : mG} {rec : Nat → Int → Int → mS → Option ((Int × mS) ⊕ mS)} {x0 : Nat} {x1 : Int} {y0 : Int} {y1 : Nat} {σ : mS} {R : ((Int × mS) ⊕ mS)} {r : mX} {τ : mS} (hD : D_X9_curve_27 rec x0 x1 y0 y1 σ = some R) (hrec : ∀ {x0 : Nat} {x1 : Int} {x2 : Int} {σ : mS} {R : ((Int × mS) ⊕ mS)}, rec x0 x1 x2 σ = some R → ∀ {r : mX} {τ : mS}, (∀ z, R = (Sum.inl z) → Ev G M_X9_curve 130 [(0, vr x0), (1, vi (z.1))] [] z.2 r τ) ∧ (∀ z, R = (Sum.inr z) → r = .inl none ∧ τ = z) → Ev G M_X9_curve 4 [(0, vr x0), (1, vi x1), (2, vi x2)] [] σ r τ) (hk : (∀ z, R = (Sum.inl z) → Ev G M_X9_curve 130 [(0, vr x0), (1, vi (z.1))] [] z.2 r τ) ∧ (∀ z, R = (Sum.inr z) → r = .inl none ∧ τ = z)) : Ev G M_X9_curve 27 [(0, vr x0), (1, vi x1)] [vi y0, vr y1] σ r τ := by
  unfold D_X9_curve_27 at hD
  refine ev_sp dX9_curve_27 rfl ?_
  obtain ⟨_, g0, hD⟩ := bd hD
  obtain ⟨r1, g, hD⟩ := bd hD
  refine ew_callVv (as := [vi y0, vi 999]) (a := y1) (rest := []) dX9_curve_30 v_X9_number w_1480 rfl (Nat.le_of_ble_eq_true rfl) rfl rfl g0 (Nat.le_of_ble_eq_true rfl) (Nat.le_of_ble_eq_true rfl) (ct_X9_number g) ?_
  refine ev_istore_n dX9_curve_33 rfl (Nat.le_of_ble_eq_true rfl) rfl ?_
  refine ev_aload_n dX9_curve_34 1 rfl rfl ?_
  refine ev_iconst dX9_curve_35 (mi_c rfl) ?_
  refine ev_sp dX9_curve_36 rfl ?_
  obtain ⟨_, g0, hD⟩ := bd hD
  obtain ⟨r2, g, hD⟩ := bd hD
  refine ew_callVv (as := [vi 0, vi 9999]) (a := x0) (rest := []) dX9_curve_39 v_X9_number w_1480 rfl (Nat.le_of_ble_eq_true rfl) rfl rfl g0 (Nat.le_of_ble_eq_true rfl) (Nat.le_of_ble_eq_true rfl) (ct_X9_number g) ?_
  refine ev_istore dX9_curve_42 (Nat.le_of_ble_eq_true rfl) rfl ?_
  refine ev_aload_n dX9_curve_44 2 rfl rfl ?_
  obtain ⟨v3, g, hD⟩ := bd hD
  refine ew_getI 8 42 dX9_curve_45 rfl (Nat.le_of_ble_eq_true rfl) w_1307 in_X9 rfl g ?_
  by_cases c : v3 ≤ 0
  · rw [if_pos c] at hD
    refine ev_if_le_t (tgt := 52) dX9_curve_48 (by decide) c ?_
    refine ev_aload_n dX9_curve_52 2 rfl rfl ?_
    obtain ⟨v4, g, hD⟩ := bd hD
    refine ew_getR 8 32 dX9_curve_53 rfl (Nat.le_of_ble_eq_true rfl) w_1297 in_X9 rfl g ?_
    refine ev_iload_n dX9_curve_56 3 rfl rfl ?_
    refine ev_iload_n dX9_curve_57 1 rfl rfl ?_
    obtain ⟨s5, g, hD⟩ := bd hD
    refine ew_iast dX9_curve_58 g ?_
    refine ev_aload_n dX9_curve_59 2 rfl rfl ?_
    obtain ⟨v6, g, hD⟩ := bd hD
    refine ew_getR 8 33 dX9_curve_60 rfl (Nat.le_of_ble_eq_true rfl) w_1298 in_X9 rfl g ?_
    refine ev_iload_n dX9_curve_63 3 rfl rfl ?_
    refine ev_iload dX9_curve_64 0 rfl ?_
    obtain ⟨s7, g, hD⟩ := bd hD
    refine ew_iast dX9_curve_66 g ?_
    refine ev_iinc dX9_curve_67 3 rfl (Nat.le_of_ble_eq_true rfl) rfl ?_
    refine ev_iload_n dX9_curve_70 0 rfl rfl ?_
    refine ev_iconst dX9_curve_71 (mi_c rfl) ?_
    by_cases c : (mw (x1 + 1)) < 2
    · rw [if_pos c] at hD
      refine ev_icmp_lt_t (tgt := 84) dX9_curve_72 (by decide) c ?_
      refine Ev.pick [3, 0] rfl ?_
      exact lk_X9_curve_84 hD hrec hk
    · rw [if_neg c] at hD
      refine ev_icmp_lt_f 84 dX9_curve_72 (by decide) c ?_
      refine ev_aload_n dX9_curve_75 3 rfl rfl ?_
      refine ev_bp dX9_curve_76 rfl ?_
      obtain ⟨_, g0, hD⟩ := bd hD
      obtain ⟨r8, g, hD⟩ := bd hD
      refine ew_callVv (as := [vi 44]) (a := x0) (rest := []) dX9_curve_78 v_X9_isSign w_1490 rfl (Nat.le_of_ble_eq_true rfl) rfl rfl g0 (Nat.le_of_ble_eq_true rfl) (Nat.le_of_ble_eq_true rfl) (ct_X9_isSign g) ?_
      by_cases c : r8.1 = 0
      · rw [if_pos c] at hD
        refine ev_if_eq_t (tgt := 88) dX9_curve_81 (by decide) c ?_
        refine ev_iconst dX9_curve_88 (mi_c rfl) ?_
        refine Ev.pick [3, 0] rfl ?_
        exact lk_X9_curve_89 hD hrec hk
      · rw [if_neg c] at hD
        refine ev_if_eq_f 88 dX9_curve_81 (by decide) c ?_
        refine Ev.pick [3, 0] rfl ?_
        exact lk_X9_curve_84 hD hrec hk
  · rw [if_neg c] at hD
    refine ev_if_le_f 52 dX9_curve_48 (by decide) c ?_
    cases hD
    obtain ⟨rfl, rfl⟩ := hk.2 _ rfl
    exact ev_ret none dX9_curve_51 True.intro
def D_X9_curve_4 : Nat → Nat → Int → Int → mS → Option ((Int × mS) ⊕ mS)
  | 0, _, _, _, _ => none
  | f + 1, x0, x1, x2, σ =>
    if x2 = 0 then
      some (Sum.inl (x1, σ))
    else
      if x1 ≠ 0 then
        (gR σ x0 8 32).bind fun v1 =>
        (lI σ v1 (mw (x1 - 1))).bind fun v2 =>
        D_X9_curve_27 (D_X9_curve_4 f) x0 x1 (mw (v2 + 1)) x0 σ
      else
        D_X9_curve_27 (D_X9_curve_4 f) x0 x1 0 x0 σ
set_option maxRecDepth 100000 in
set_option maxHeartbeats 4000000 in
theorem lk_X9_curve_4 {G : mG} (f : Nat) : ∀ {x0 : Nat} {x1 : Int} {x2 : Int} {σ : mS} {R : ((Int × mS) ⊕ mS)}, D_X9_curve_4 f x0 x1 x2 σ = some R → ∀ {r : mX} {τ : mS}, (∀ z, R = (Sum.inl z) → Ev G M_X9_curve 130 [(0, vr x0), (1, vi (z.1))] [] z.2 r τ) ∧ (∀ z, R = (Sum.inr z) → r = .inl none ∧ τ = z) → Ev G M_X9_curve 4 [(0, vr x0), (1, vi x1), (2, vi x2)] [] σ r τ := by
  induction f with
  | zero =>
    intros
    rename_i hD _ _ _
    cases hD
  | succ f ih =>
    intro x0 x1 x2 σ R hD r τ hk
    have hrec := @ih
    rw [D_X9_curve_4] at hD
    refine ev_iload_n dX9_curve_4 2 rfl rfl ?_
    by_cases c : x2 = 0
    · rw [if_pos c] at hD
      refine ev_if_eq_t (tgt := 130) dX9_curve_5 (by decide) c ?_
      cases hD
      refine Ev.pick [0, 1] rfl ?_
      exact hk.1 _ rfl
    · rw [if_neg c] at hD
      refine ev_if_eq_f 130 dX9_curve_5 (by decide) c ?_
      refine ev_aload_n dX9_curve_8 0 rfl rfl ?_
      refine ev_iload_n dX9_curve_9 1 rfl rfl ?_
      by_cases c : x1 ≠ 0
      · rw [if_pos c] at hD
        refine ev_if_ne_t (tgt := 17) dX9_curve_10 (by decide) c ?_
        refine ev_aload_n dX9_curve_17 0 rfl rfl ?_
        obtain ⟨v1, g, hD⟩ := bd hD
        refine ew_getR 8 32 dX9_curve_18 rfl (Nat.le_of_ble_eq_true rfl) w_1297 in_X9 rfl g ?_
        refine ev_iload_n dX9_curve_21 1 rfl rfl ?_
        refine ev_iconst dX9_curve_22 (mi_c rfl) ?_
        refine ev_isub dX9_curve_23 ?_
        obtain ⟨v2, g, hD⟩ := bd hD
        refine ew_iald dX9_curve_24 g ?_
        refine ev_iconst dX9_curve_25 (mi_c rfl) ?_
        refine ev_iadd dX9_curve_26 ?_
        refine Ev.pick [0, 1] rfl ?_
        exact lk_X9_curve_27 hD hrec hk
      · rw [if_neg c] at hD
        refine ev_if_ne_f 17 dX9_curve_10 (by decide) c ?_
        refine ev_iconst dX9_curve_13 (mi_c rfl) ?_
        refine ev_goto (tgt := 27) dX9_curve_14 (by decide) ?_
        refine Ev.pick [0, 1] rfl ?_
        exact lk_X9_curve_27 hD hrec hk
def D_X9_curve (x0 : Nat) (σ : mS) : Option mS :=
  (D_X9_curve_4 mFU x0 0 1 σ).bind fun r1 =>
  match r1 with
  | (Sum.inl z2) =>
    (pI z2.2 x0 8 47 z2.1).bind fun s3 =>
    some s3
  | (Sum.inr z4) =>
    some z4
set_option maxRecDepth 100000 in
set_option maxHeartbeats 4000000 in
theorem lk_X9_curve {G : mG} {x0 : Nat} {σ : mS} {R : mS} (hD : D_X9_curve x0 σ = some R) : Ev G M_X9_curve 0 [(0, vr x0)] [] σ (.inl none) R := by
  unfold D_X9_curve at hD
  refine ev_iconst dX9_curve_0 (mi_c rfl) ?_
  refine ev_istore_n dX9_curve_1 rfl (Nat.le_of_ble_eq_true rfl) rfl ?_
  refine ev_iconst dX9_curve_2 (mi_c rfl) ?_
  refine ev_istore_n dX9_curve_3 rfl (Nat.le_of_ble_eq_true rfl) rfl ?_
  obtain ⟨r1, g, hD⟩ := bd hD
  refine Ev.pick [2, 1, 0] rfl ?_
  rcases r1 with z2 | z4
  · refine lk_X9_curve_4 mFU g ⟨(fun _ hz => ?_), (fun _ hz => nomatch hz)⟩
    cases hz
    refine ev_aload_n dX9_curve_130 0 rfl rfl ?_
    refine ev_iload_n dX9_curve_131 1 rfl rfl ?_
    obtain ⟨s3, g, hD⟩ := bd hD
    refine ew_putI 8 47 dX9_curve_132 rfl (Nat.le_of_ble_eq_true rfl) w_1312 in_X9 tyX9_ok nmX9 (Or.inl rfl) rfl g ?_
    cases hD
    exact ev_ret none dX9_curve_135 True.intro
  · refine lk_X9_curve_4 mFU g ⟨(fun _ hz => nomatch hz), (fun _ hz => ?_)⟩
    cases hz
    cases hD
    exact ⟨rfl, rfl⟩
theorem ct_X9_curve {G : mG} {x0 : Nat} {σ : mS} {R : mS} (hD : D_X9_curve x0 σ = some R) : Ct G M_X9_curve [vr x0] σ (.inl none) R := ct_of rfl (by decide +kernel) rfl (Nat.le_of_ble_eq_true rfl) rfl (lk_X9_curve hD)
def D_X9_dated_83 (σ : mS) : Option mS :=
  some σ
set_option maxRecDepth 100000 in
set_option maxHeartbeats 4000000 in
theorem lk_X9_dated_83 {G : mG} {σ : mS} {R : mS} (hD : D_X9_dated_83  σ = some R) : Ev G M_X9_dated 83 [] [] σ (.inl none) R := by
  unfold D_X9_dated_83 at hD
  cases hD
  exact ev_ret none dX9_dated_83 True.intro
def D_X9_dated_18 (x0 : Nat) (σ : mS) : Option mS :=
  (gI σ x0 8 42).bind fun v1 =>
  if v1 ≤ 0 then
    (gI σ x0 8 45).bind fun v2 =>
    (tgO σ x0 8).bind fun _ =>
    (D_X9_fresh x0 v2 σ).bind fun r3 =>
    (tgO r3 x0 8).bind fun _ =>
    (D_X9_setSample x0 0 0 r3).bind fun r4 =>
    (tgO r4 x0 8).bind fun _ =>
    (D_X9_number x0 0 9999 r4).bind fun r5 =>
    (tgO r5.2 x0 8).bind fun _ =>
    (D_X9_setSample x0 1 r5.1 r5.2).bind fun r6 =>
    (tgO r6 x0 8).bind fun _ =>
    (D_X9_number x0 0 999 r6).bind fun r7 =>
    (tgO r7.2 x0 8).bind fun _ =>
    (D_X9_setSample x0 2 r7.1 r7.2).bind fun r8 =>
    (gI r8 x0 8 42).bind fun v9 =>
    if v9 ≠ 0 then
      D_X9_dated_83  r8
    else
      (gI r8 x0 8 45).bind fun v10 =>
      (pI r8 x0 8 45 (mw (v10 + 1))).bind fun s11 =>
      D_X9_dated_83  s11
  else
    some σ
set_option maxRecDepth 100000 in
set_option maxHeartbeats 4000000 in
theorem lk_X9_dated_18 {G : mG} {x0 : Nat} {σ : mS} {R : mS} (hD : D_X9_dated_18 x0 σ = some R) : Ev G M_X9_dated 18 [(0, vr x0)] [] σ (.inl none) R := by
  unfold D_X9_dated_18 at hD
  refine ev_aload_n dX9_dated_18 0 rfl rfl ?_
  obtain ⟨v1, g, hD⟩ := bd hD
  refine ew_getI 8 42 dX9_dated_19 rfl (Nat.le_of_ble_eq_true rfl) w_1307 in_X9 rfl g ?_
  by_cases c : v1 ≤ 0
  · rw [if_pos c] at hD
    refine ev_if_le_t (tgt := 26) dX9_dated_22 (by decide) c ?_
    refine ev_aload_n dX9_dated_26 0 rfl rfl ?_
    refine ev_aload_n dX9_dated_27 0 rfl rfl ?_
    obtain ⟨v2, g, hD⟩ := bd hD
    refine ew_getI 8 45 dX9_dated_28 rfl (Nat.le_of_ble_eq_true rfl) w_1310 in_X9 rfl g ?_
    obtain ⟨_, g0, hD⟩ := bd hD
    obtain ⟨r3, g, hD⟩ := bd hD
    refine ew_callV0 (as := [vi v2]) (a := x0) (rest := []) dX9_dated_31 v_X9_fresh w_1507 rfl (Nat.le_of_ble_eq_true rfl) rfl rfl g0 (Nat.le_of_ble_eq_true rfl) (Nat.le_of_ble_eq_true rfl) (ct_X9_fresh g) ?_
    refine ev_aload_n dX9_dated_34 0 rfl rfl ?_
    refine ev_iconst dX9_dated_35 (mi_c rfl) ?_
    refine ev_iconst dX9_dated_36 (mi_c rfl) ?_
    obtain ⟨_, g0, hD⟩ := bd hD
    obtain ⟨r4, g, hD⟩ := bd hD
    refine ew_callV0 (as := [vi 0, vi 0]) (a := x0) (rest := []) dX9_dated_37 v_X9_setSample w_1523 rfl (Nat.le_of_ble_eq_true rfl) rfl rfl g0 (Nat.le_of_ble_eq_true rfl) (Nat.le_of_ble_eq_true rfl) (ct_X9_setSample g) ?_
    refine ev_aload_n dX9_dated_40 0 rfl rfl ?_
    refine ev_iconst dX9_dated_41 (mi_c rfl) ?_
    refine ev_aload_n dX9_dated_42 0 rfl rfl ?_
    refine ev_iconst dX9_dated_43 (mi_c rfl) ?_
    refine ev_sp dX9_dated_44 rfl ?_
    obtain ⟨_, g0, hD⟩ := bd hD
    obtain ⟨r5, g, hD⟩ := bd hD
    refine ew_callVv (as := [vi 0, vi 9999]) (a := x0) (rest := [vi 1, vr x0]) dX9_dated_47 v_X9_number w_1480 rfl (Nat.le_of_ble_eq_true rfl) rfl rfl g0 (Nat.le_of_ble_eq_true rfl) (Nat.le_of_ble_eq_true rfl) (ct_X9_number g) ?_
    obtain ⟨_, g0, hD⟩ := bd hD
    obtain ⟨r6, g, hD⟩ := bd hD
    refine ew_callV0 (as := [vi 1, vi r5.1]) (a := x0) (rest := []) dX9_dated_50 v_X9_setSample w_1523 rfl (Nat.le_of_ble_eq_true rfl) rfl rfl g0 (Nat.le_of_ble_eq_true rfl) (Nat.le_of_ble_eq_true rfl) (ct_X9_setSample g) ?_
    refine ev_aload_n dX9_dated_53 0 rfl rfl ?_
    refine ev_iconst dX9_dated_54 (mi_c rfl) ?_
    refine ev_aload_n dX9_dated_55 0 rfl rfl ?_
    refine ev_iconst dX9_dated_56 (mi_c rfl) ?_
    refine ev_sp dX9_dated_57 rfl ?_
    obtain ⟨_, g0, hD⟩ := bd hD
    obtain ⟨r7, g, hD⟩ := bd hD
    refine ew_callVv (as := [vi 0, vi 999]) (a := x0) (rest := [vi 2, vr x0]) dX9_dated_60 v_X9_number w_1480 rfl (Nat.le_of_ble_eq_true rfl) rfl rfl g0 (Nat.le_of_ble_eq_true rfl) (Nat.le_of_ble_eq_true rfl) (ct_X9_number g) ?_
    obtain ⟨_, g0, hD⟩ := bd hD
    obtain ⟨r8, g, hD⟩ := bd hD
    refine ew_callV0 (as := [vi 2, vi r7.1]) (a := x0) (rest := []) dX9_dated_63 v_X9_setSample w_1523 rfl (Nat.le_of_ble_eq_true rfl) rfl rfl g0 (Nat.le_of_ble_eq_true rfl) (Nat.le_of_ble_eq_true rfl) (ct_X9_setSample g) ?_
    refine ev_aload_n dX9_dated_66 0 rfl rfl ?_
    obtain ⟨v9, g, hD⟩ := bd hD
    refine ew_getI 8 42 dX9_dated_67 rfl (Nat.le_of_ble_eq_true rfl) w_1307 in_X9 rfl g ?_
    by_cases c : v9 ≠ 0
    · rw [if_pos c] at hD
      refine ev_if_ne_t (tgt := 83) dX9_dated_70 (by decide) c ?_
      refine Ev.pick [] rfl ?_
      exact lk_X9_dated_83 hD
    · rw [if_neg c] at hD
      refine ev_if_ne_f 83 dX9_dated_70 (by decide) c ?_
      refine ev_aload_n dX9_dated_73 0 rfl rfl ?_
      refine ev_dup dX9_dated_74 rfl ?_
      obtain ⟨v10, g, hD⟩ := bd hD
      refine ew_getI 8 45 dX9_dated_75 rfl (Nat.le_of_ble_eq_true rfl) w_1310 in_X9 rfl g ?_
      refine ev_iconst dX9_dated_78 (mi_c rfl) ?_
      refine ev_iadd dX9_dated_79 ?_
      obtain ⟨s11, g, hD⟩ := bd hD
      refine ew_putI 8 45 dX9_dated_80 rfl (Nat.le_of_ble_eq_true rfl) w_1310 in_X9 tyX9_ok nmX9 (Or.inl rfl) rfl g ?_
      refine Ev.pick [] rfl ?_
      exact lk_X9_dated_83 hD
  · rw [if_neg c] at hD
    refine ev_if_le_f 26 dX9_dated_22 (by decide) c ?_
    cases hD
    exact ev_ret none dX9_dated_25 True.intro
def D_X9_dated (x0 : Nat) (σ : mS) : Option mS :=
  (gI σ x0 8 45).bind fun v1 =>
  if v1 ≠ 12 then
    D_X9_dated_18 x0 σ
  else
    (gI σ x0 8 40).bind fun v2 =>
    (tgO σ x0 8).bind fun _ =>
    (D_X9_wrong x0 3 v2 σ).bind fun r3 =>
    D_X9_dated_18 x0 r3
set_option maxRecDepth 100000 in
set_option maxHeartbeats 4000000 in
theorem lk_X9_dated {G : mG} {x0 : Nat} {σ : mS} {R : mS} (hD : D_X9_dated x0 σ = some R) : Ev G M_X9_dated 0 [(0, vr x0)] [] σ (.inl none) R := by
  unfold D_X9_dated at hD
  refine ev_aload_n dX9_dated_0 0 rfl rfl ?_
  obtain ⟨v1, g, hD⟩ := bd hD
  refine ew_getI 8 45 dX9_dated_1 rfl (Nat.le_of_ble_eq_true rfl) w_1310 in_X9 rfl g ?_
  refine ev_bp dX9_dated_4 rfl ?_
  by_cases c : v1 ≠ 12
  · rw [if_pos c] at hD
    refine ev_icmp_ne_t (tgt := 18) dX9_dated_6 (by decide) c ?_
    exact lk_X9_dated_18 hD
  · rw [if_neg c] at hD
    refine ev_icmp_ne_f 18 dX9_dated_6 (by decide) c ?_
    refine ev_aload_n dX9_dated_9 0 rfl rfl ?_
    refine ev_iconst dX9_dated_10 (mi_c rfl) ?_
    refine ev_aload_n dX9_dated_11 0 rfl rfl ?_
    obtain ⟨v2, g, hD⟩ := bd hD
    refine ew_getI 8 40 dX9_dated_12 rfl (Nat.le_of_ble_eq_true rfl) w_1305 in_X9 rfl g ?_
    obtain ⟨_, g0, hD⟩ := bd hD
    obtain ⟨r3, g, hD⟩ := bd hD
    refine ew_callV0 (as := [vi 3, vi v2]) (a := x0) (rest := []) dX9_dated_15 v_X9_wrong w_1472 rfl (Nat.le_of_ble_eq_true rfl) rfl rfl g0 (Nat.le_of_ble_eq_true rfl) (Nat.le_of_ble_eq_true rfl) (ct_X9_wrong g) ?_
    exact lk_X9_dated_18 hD
theorem ct_X9_dated {G : mG} {x0 : Nat} {σ : mS} {R : mS} (hD : D_X9_dated x0 σ = some R) : Ct G M_X9_dated [vr x0] σ (.inl none) R := ct_of rfl (by decide +kernel) rfl (Nat.le_of_ble_eq_true rfl) rfl (lk_X9_dated hD)
def D_X9_ringed_165 (rec : Nat → Int → Int → Int → mS → Option ((Int × mS) ⊕ mS)) (x0 : Nat) (x1 : Int) (x2 : Int) (x3 : Int) (σ : mS) : Option ((Int × mS) ⊕ mS) :=
  (gI σ x0 8 42).bind fun v1 =>
  if v1 ≤ 0 then
    rec x0 x1 x2 x3 σ
  else
    some (Sum.inr σ)
set_option maxRecDepth 100000 in
set_option maxHeartbeats 4000000 in
theorem lk_X9_ringed_165 {G : mG} {rec : Nat → Int → Int → Int → mS → Option ((Int × mS) ⊕ mS)} {x0 : Nat} {x1 : Int} {x2 : Int} {x3 : Int} {σ : mS} {R : ((Int × mS) ⊕ mS)} {r : mX} {τ : mS} (hD : D_X9_ringed_165 rec x0 x1 x2 x3 σ = some R) (hrec : ∀ {x0 : Nat} {x1 : Int} {x2 : Int} {x3 : Int} {σ : mS} {R : ((Int × mS) ⊕ mS)}, rec x0 x1 x2 x3 σ = some R → ∀ {r : mX} {τ : mS}, (∀ z, R = (Sum.inl z) → Ev G M_X9_ringed 176 [(0, vr x0), (1, vi (z.1))] [] z.2 r τ) ∧ (∀ z, R = (Sum.inr z) → r = .inl none ∧ τ = z) → Ev G M_X9_ringed 70 [(0, vr x0), (1, vi x1), (2, vi x2), (3, vi x3)] [] σ r τ) (hk : (∀ z, R = (Sum.inl z) → Ev G M_X9_ringed 176 [(0, vr x0), (1, vi (z.1))] [] z.2 r τ) ∧ (∀ z, R = (Sum.inr z) → r = .inl none ∧ τ = z)) : Ev G M_X9_ringed 165 [(0, vr x0), (1, vi x1), (2, vi x2), (3, vi x3)] [] σ r τ := by
  unfold D_X9_ringed_165 at hD
  refine ev_aload_n dX9_ringed_165 0 rfl rfl ?_
  obtain ⟨v1, g, hD⟩ := bd hD
  refine ew_getI 8 42 dX9_ringed_166 rfl (Nat.le_of_ble_eq_true rfl) w_1307 in_X9 rfl g ?_
  by_cases c : v1 ≤ 0
  · rw [if_pos c] at hD
    refine ev_if_le_t (tgt := 173) dX9_ringed_169 (by decide) c ?_
    refine ev_goto (tgt := 70) dX9_ringed_173 (by decide) ?_
    exact hrec hD hk
  · rw [if_neg c] at hD
    refine ev_if_le_f 173 dX9_ringed_169 (by decide) c ?_
    cases hD
    obtain ⟨rfl, rfl⟩ := hk.2 _ rfl
    exact ev_ret none dX9_ringed_172 True.intro
def D_X9_ringed_155 (rec : Nat → Int → Int → Int → mS → Option ((Int × mS) ⊕ mS)) (x0 : Nat) (x1 : Int) (x2 : Int) (x3 : Int) (σ : mS) : Option ((Int × mS) ⊕ mS) :=
  if x3 = 0 then
    D_X9_ringed_165 rec x0 x1 x2 x3 σ
  else
    (tgO σ x0 8).bind fun _ =>
    (D_X9_must x0 44 σ).bind fun r1 =>
    D_X9_ringed_165 rec x0 x1 x2 x3 r1
set_option maxRecDepth 100000 in
set_option maxHeartbeats 4000000 in
theorem lk_X9_ringed_155 {G : mG} {rec : Nat → Int → Int → Int → mS → Option ((Int × mS) ⊕ mS)} {x0 : Nat} {x1 : Int} {x2 : Int} {x3 : Int} {σ : mS} {R : ((Int × mS) ⊕ mS)} {r : mX} {τ : mS} (hD : D_X9_ringed_155 rec x0 x1 x2 x3 σ = some R) (hrec : ∀ {x0 : Nat} {x1 : Int} {x2 : Int} {x3 : Int} {σ : mS} {R : ((Int × mS) ⊕ mS)}, rec x0 x1 x2 x3 σ = some R → ∀ {r : mX} {τ : mS}, (∀ z, R = (Sum.inl z) → Ev G M_X9_ringed 176 [(0, vr x0), (1, vi (z.1))] [] z.2 r τ) ∧ (∀ z, R = (Sum.inr z) → r = .inl none ∧ τ = z) → Ev G M_X9_ringed 70 [(0, vr x0), (1, vi x1), (2, vi x2), (3, vi x3)] [] σ r τ) (hk : (∀ z, R = (Sum.inl z) → Ev G M_X9_ringed 176 [(0, vr x0), (1, vi (z.1))] [] z.2 r τ) ∧ (∀ z, R = (Sum.inr z) → r = .inl none ∧ τ = z)) : Ev G M_X9_ringed 155 [(0, vr x0), (1, vi x1), (2, vi x2), (3, vi x3)] [] σ r τ := by
  unfold D_X9_ringed_155 at hD
  refine ev_iload_n dX9_ringed_155 3 rfl rfl ?_
  by_cases c : x3 = 0
  · rw [if_pos c] at hD
    refine ev_if_eq_t (tgt := 165) dX9_ringed_156 (by decide) c ?_
    exact lk_X9_ringed_165 hD hrec hk
  · rw [if_neg c] at hD
    refine ev_if_eq_f 165 dX9_ringed_156 (by decide) c ?_
    refine ev_aload_n dX9_ringed_159 0 rfl rfl ?_
    refine ev_bp dX9_ringed_160 rfl ?_
    obtain ⟨_, g0, hD⟩ := bd hD
    obtain ⟨r1, g, hD⟩ := bd hD
    refine ew_callV0 (as := [vi 44]) (a := x0) (rest := []) dX9_ringed_162 v_X9_must w_1494 rfl (Nat.le_of_ble_eq_true rfl) rfl rfl g0 (Nat.le_of_ble_eq_true rfl) (Nat.le_of_ble_eq_true rfl) (ct_X9_must g) ?_
    exact lk_X9_ringed_165 hD hrec hk
def D_X9_ringed_70 : Nat → Nat → Int → Int → Int → mS → Option ((Int × mS) ⊕ mS)
  | 0, _, _, _, _, _ => none
  | f + 1, x0, x1, x2, x3, σ =>
    if x3 = 0 then
      some (Sum.inl (x1, σ))
    else
      (tgO σ x0 8).bind fun _ =>
      (D_X9_number x0 (mw (x2 + 1)) 300 σ).bind fun r1 =>
      (tgO r1.2 x0 8).bind fun _ =>
      (D_X9_number x0 0 9999 r1.2).bind fun r2 =>
      (gI r2.2 x0 8 42).bind fun v3 =>
      if v3 ≤ 0 then
        (tgO r2.2 x0 8).bind fun _ =>
        (D_X9_setSample x0 (mw (3 + x1)) r1.1 r2.2).bind fun r4 =>
        (tgO r4 x0 8).bind fun _ =>
        (D_X9_setSample x0 (mw (9 + x1)) r2.1 r4).bind fun r5 =>
        (tgO r5 x0 8).bind fun _ =>
        (D_X9_isSign x0 44 r5).bind fun r6 =>
        if r6.1 = 0 then
          D_X9_ringed_155 (D_X9_ringed_70 f) x0 (mw (x1 + 1)) r1.1 r6.1 r6.2
        else
          if (mw (x1 + 1)) ≠ 6 then
            D_X9_ringed_155 (D_X9_ringed_70 f) x0 (mw (x1 + 1)) r1.1 r6.1 r6.2
          else
            (gI r6.2 x0 8 39).bind fun v7 =>
            (tgO r6.2 x0 8).bind fun _ =>
            (D_X9_wrong x0 3 v7 r6.2).bind fun r8 =>
            D_X9_ringed_155 (D_X9_ringed_70 f) x0 (mw (x1 + 1)) r1.1 r6.1 r8
      else
        some (Sum.inr r2.2)
set_option maxRecDepth 100000 in
set_option maxHeartbeats 4000000 in
theorem lk_X9_ringed_70 {G : mG} (f : Nat) : ∀ {x0 : Nat} {x1 : Int} {x2 : Int} {x3 : Int} {σ : mS} {R : ((Int × mS) ⊕ mS)}, D_X9_ringed_70 f x0 x1 x2 x3 σ = some R → ∀ {r : mX} {τ : mS}, (∀ z, R = (Sum.inl z) → Ev G M_X9_ringed 176 [(0, vr x0), (1, vi (z.1))] [] z.2 r τ) ∧ (∀ z, R = (Sum.inr z) → r = .inl none ∧ τ = z) → Ev G M_X9_ringed 70 [(0, vr x0), (1, vi x1), (2, vi x2), (3, vi x3)] [] σ r τ := by
  induction f with
  | zero =>
    intros
    rename_i hD _ _ _
    cases hD
  | succ f ih =>
    intro x0 x1 x2 x3 σ R hD r τ hk
    have hrec := @ih
    rw [D_X9_ringed_70] at hD
    refine ev_iload_n dX9_ringed_70 3 rfl rfl ?_
    by_cases c : x3 = 0
    · rw [if_pos c] at hD
      refine ev_if_eq_t (tgt := 176) dX9_ringed_71 (by decide) c ?_
      cases hD
      refine Ev.pick [0, 1] rfl ?_
      exact hk.1 _ rfl
    · rw [if_neg c] at hD
      refine ev_if_eq_f 176 dX9_ringed_71 (by decide) c ?_
      refine ev_aload_n dX9_ringed_74 0 rfl rfl ?_
      refine ev_iload_n dX9_ringed_75 2 rfl rfl ?_
      refine ev_iconst dX9_ringed_76 (mi_c rfl) ?_
      refine ev_iadd dX9_ringed_77 ?_
      refine ev_sp dX9_ringed_78 rfl ?_
      obtain ⟨_, g0, hD⟩ := bd hD
      obtain ⟨r1, g, hD⟩ := bd hD
      refine ew_callVv (as := [vi (mw (x2 + 1)), vi 300]) (a := x0) (rest := []) dX9_ringed_81 v_X9_number w_1480 rfl (Nat.le_of_ble_eq_true rfl) rfl rfl g0 (Nat.le_of_ble_eq_true rfl) (Nat.le_of_ble_eq_true rfl) (ct_X9_number g) ?_
      refine ev_istore dX9_ringed_84 (Nat.le_of_ble_eq_true rfl) rfl ?_
      refine ev_aload_n dX9_ringed_86 1 rfl rfl ?_
      refine ev_iconst dX9_ringed_87 (mi_c rfl) ?_
      refine ev_sp dX9_ringed_88 rfl ?_
      obtain ⟨_, g0, hD⟩ := bd hD
      obtain ⟨r2, g, hD⟩ := bd hD
      refine ew_callVv (as := [vi 0, vi 9999]) (a := x0) (rest := []) dX9_ringed_91 v_X9_number w_1480 rfl (Nat.le_of_ble_eq_true rfl) rfl rfl g0 (Nat.le_of_ble_eq_true rfl) (Nat.le_of_ble_eq_true rfl) (ct_X9_number g) ?_
      refine ev_istore dX9_ringed_94 (Nat.le_of_ble_eq_true rfl) rfl ?_
      refine ev_aload_n dX9_ringed_96 2 rfl rfl ?_
      obtain ⟨v3, g, hD⟩ := bd hD
      refine ew_getI 8 42 dX9_ringed_97 rfl (Nat.le_of_ble_eq_true rfl) w_1307 in_X9 rfl g ?_
      by_cases c : v3 ≤ 0
      · rw [if_pos c] at hD
        refine ev_if_le_t (tgt := 104) dX9_ringed_100 (by decide) c ?_
        refine ev_aload_n dX9_ringed_104 2 rfl rfl ?_
        refine ev_iconst dX9_ringed_105 (mi_c rfl) ?_
        refine ev_iload_n dX9_ringed_106 3 rfl rfl ?_
        refine ev_iadd dX9_ringed_107 ?_
        refine ev_iload dX9_ringed_108 1 rfl ?_
        obtain ⟨_, g0, hD⟩ := bd hD
        obtain ⟨r4, g, hD⟩ := bd hD
        refine ew_callV0 (as := [vi (mw (3 + x1)), vi r1.1]) (a := x0) (rest := []) dX9_ringed_110 v_X9_setSample w_1523 rfl (Nat.le_of_ble_eq_true rfl) rfl rfl g0 (Nat.le_of_ble_eq_true rfl) (Nat.le_of_ble_eq_true rfl) (ct_X9_setSample g) ?_
        refine ev_aload_n dX9_ringed_113 2 rfl rfl ?_
        refine ev_bp dX9_ringed_114 rfl ?_
        refine ev_iload_n dX9_ringed_116 3 rfl rfl ?_
        refine ev_iadd dX9_ringed_117 ?_
        refine ev_iload dX9_ringed_118 0 rfl ?_
        obtain ⟨_, g0, hD⟩ := bd hD
        obtain ⟨r5, g, hD⟩ := bd hD
        refine ew_callV0 (as := [vi (mw (9 + x1)), vi r2.1]) (a := x0) (rest := []) dX9_ringed_120 v_X9_setSample w_1523 rfl (Nat.le_of_ble_eq_true rfl) rfl rfl g0 (Nat.le_of_ble_eq_true rfl) (Nat.le_of_ble_eq_true rfl) (ct_X9_setSample g) ?_
        refine ev_iload dX9_ringed_123 1 rfl ?_
        refine ev_istore_n dX9_ringed_125 rfl (Nat.le_of_ble_eq_true rfl) rfl ?_
        refine ev_iinc dX9_ringed_126 4 rfl (Nat.le_of_ble_eq_true rfl) rfl ?_
        refine ev_aload_n dX9_ringed_129 4 rfl rfl ?_
        refine ev_bp dX9_ringed_130 rfl ?_
        obtain ⟨_, g0, hD⟩ := bd hD
        obtain ⟨r6, g, hD⟩ := bd hD
        refine ew_callVv (as := [vi 44]) (a := x0) (rest := []) dX9_ringed_132 v_X9_isSign w_1490 rfl (Nat.le_of_ble_eq_true rfl) rfl rfl g0 (Nat.le_of_ble_eq_true rfl) (Nat.le_of_ble_eq_true rfl) (ct_X9_isSign g) ?_
        refine ev_istore_n dX9_ringed_135 rfl (Nat.le_of_ble_eq_true rfl) rfl ?_
        refine ev_iload_n dX9_ringed_136 0 rfl rfl ?_
        by_cases c : r6.1 = 0
        · rw [if_pos c] at hD
          refine ev_if_eq_t (tgt := 155) dX9_ringed_137 (by decide) c ?_
          refine Ev.pick [5, 1, 2, 0] rfl ?_
          exact lk_X9_ringed_155 hD hrec hk
        · rw [if_neg c] at hD
          refine ev_if_eq_f 155 dX9_ringed_137 (by decide) c ?_
          refine ev_iload_n dX9_ringed_140 1 rfl rfl ?_
          refine ev_bp dX9_ringed_141 rfl ?_
          by_cases c : (mw (x1 + 1)) ≠ 6
          · rw [if_pos c] at hD
            refine ev_icmp_ne_t (tgt := 155) dX9_ringed_143 (by decide) c ?_
            refine Ev.pick [5, 1, 2, 0] rfl ?_
            exact lk_X9_ringed_155 hD hrec hk
          · rw [if_neg c] at hD
            refine ev_icmp_ne_f 155 dX9_ringed_143 (by decide) c ?_
            refine ev_aload_n dX9_ringed_146 5 rfl rfl ?_
            refine ev_iconst dX9_ringed_147 (mi_c rfl) ?_
            refine ev_aload_n dX9_ringed_148 5 rfl rfl ?_
            obtain ⟨v7, g, hD⟩ := bd hD
            refine ew_getI 8 39 dX9_ringed_149 rfl (Nat.le_of_ble_eq_true rfl) w_1304 in_X9 rfl g ?_
            obtain ⟨_, g0, hD⟩ := bd hD
            obtain ⟨r8, g, hD⟩ := bd hD
            refine ew_callV0 (as := [vi 3, vi v7]) (a := x0) (rest := []) dX9_ringed_152 v_X9_wrong w_1472 rfl (Nat.le_of_ble_eq_true rfl) rfl rfl g0 (Nat.le_of_ble_eq_true rfl) (Nat.le_of_ble_eq_true rfl) (ct_X9_wrong g) ?_
            refine Ev.pick [5, 1, 2, 0] rfl ?_
            exact lk_X9_ringed_155 hD hrec hk
      · rw [if_neg c] at hD
        refine ev_if_le_f 104 dX9_ringed_100 (by decide) c ?_
        cases hD
        obtain ⟨rfl, rfl⟩ := hk.2 _ rfl
        exact ev_ret none dX9_ringed_103 True.intro
def D_X9_ringed_199 (σ : mS) : Option mS :=
  some σ
set_option maxRecDepth 100000 in
set_option maxHeartbeats 4000000 in
theorem lk_X9_ringed_199 {G : mG} {σ : mS} {R : mS} (hD : D_X9_ringed_199  σ = some R) : Ev G M_X9_ringed 199 [] [] σ (.inl none) R := by
  unfold D_X9_ringed_199 at hD
  cases hD
  exact ev_ret none dX9_ringed_199 True.intro
def D_X9_ringed_69 (x0 : Nat) (x1 : Int) (x2 : Int) (y0 : Int) (σ : mS) : Option mS :=
  (D_X9_ringed_70 mFU x0 x1 x2 y0 σ).bind fun r1 =>
  match r1 with
  | (Sum.inl z2) =>
    (tgO z2.2 x0 8).bind fun _ =>
    (D_X9_setSample x0 2 z2.1 z2.2).bind fun r3 =>
    (gI r3 x0 8 42).bind fun v4 =>
    if v4 ≠ 0 then
      D_X9_ringed_199  r3
    else
      (gI r3 x0 8 45).bind fun v5 =>
      (pI r3 x0 8 45 (mw (v5 + 1))).bind fun s6 =>
      D_X9_ringed_199  s6
  | (Sum.inr z7) =>
    some z7
set_option maxRecDepth 100000 in
set_option maxHeartbeats 4000000 in
theorem lk_X9_ringed_69 {G : mG} {x0 : Nat} {x1 : Int} {x2 : Int} {y0 : Int} {σ : mS} {R : mS} (hD : D_X9_ringed_69 x0 x1 x2 y0 σ = some R) : Ev G M_X9_ringed 69 [(0, vr x0), (1, vi x1), (2, vi x2)] [vi y0] σ (.inl none) R := by
  unfold D_X9_ringed_69 at hD
  refine ev_istore_n dX9_ringed_69 rfl (Nat.le_of_ble_eq_true rfl) rfl ?_
  obtain ⟨r1, g, hD⟩ := bd hD
  refine Ev.pick [1, 2, 3, 0] rfl ?_
  rcases r1 with z2 | z7
  · refine lk_X9_ringed_70 mFU g ⟨(fun _ hz => ?_), (fun _ hz => nomatch hz)⟩
    cases hz
    refine ev_aload_n dX9_ringed_176 0 rfl rfl ?_
    refine ev_iconst dX9_ringed_177 (mi_c rfl) ?_
    refine ev_iload_n dX9_ringed_178 1 rfl rfl ?_
    obtain ⟨_, g0, hD⟩ := bd hD
    obtain ⟨r3, g, hD⟩ := bd hD
    refine ew_callV0 (as := [vi 2, vi z2.1]) (a := x0) (rest := []) dX9_ringed_179 v_X9_setSample w_1523 rfl (Nat.le_of_ble_eq_true rfl) rfl rfl g0 (Nat.le_of_ble_eq_true rfl) (Nat.le_of_ble_eq_true rfl) (ct_X9_setSample g) ?_
    refine ev_aload_n dX9_ringed_182 0 rfl rfl ?_
    obtain ⟨v4, g, hD⟩ := bd hD
    refine ew_getI 8 42 dX9_ringed_183 rfl (Nat.le_of_ble_eq_true rfl) w_1307 in_X9 rfl g ?_
    by_cases c : v4 ≠ 0
    · rw [if_pos c] at hD
      refine ev_if_ne_t (tgt := 199) dX9_ringed_186 (by decide) c ?_
      refine Ev.pick [] rfl ?_
      exact lk_X9_ringed_199 hD
    · rw [if_neg c] at hD
      refine ev_if_ne_f 199 dX9_ringed_186 (by decide) c ?_
      refine ev_aload_n dX9_ringed_189 0 rfl rfl ?_
      refine ev_dup dX9_ringed_190 rfl ?_
      obtain ⟨v5, g, hD⟩ := bd hD
      refine ew_getI 8 45 dX9_ringed_191 rfl (Nat.le_of_ble_eq_true rfl) w_1310 in_X9 rfl g ?_
      refine ev_iconst dX9_ringed_194 (mi_c rfl) ?_
      refine ev_iadd dX9_ringed_195 ?_
      obtain ⟨s6, g, hD⟩ := bd hD
      refine ew_putI 8 45 dX9_ringed_196 rfl (Nat.le_of_ble_eq_true rfl) w_1310 in_X9 tyX9_ok nmX9 (Or.inl rfl) rfl g ?_
      refine Ev.pick [] rfl ?_
      exact lk_X9_ringed_199 hD
  · refine lk_X9_ringed_70 mFU g ⟨(fun _ hz => nomatch hz), (fun _ hz => ?_)⟩
    cases hz
    cases hD
    exact ⟨rfl, rfl⟩
def D_X9_ringed_18 (x0 : Nat) (σ : mS) : Option mS :=
  (gI σ x0 8 42).bind fun v1 =>
  if v1 ≤ 0 then
    (gI σ x0 8 45).bind fun v2 =>
    (tgO σ x0 8).bind fun _ =>
    (D_X9_fresh x0 v2 σ).bind fun r3 =>
    (tgO r3 x0 8).bind fun _ =>
    (D_X9_setSample x0 0 1 r3).bind fun r4 =>
    (tgO r4 x0 8).bind fun _ =>
    (D_X9_number x0 0 999 r4).bind fun r5 =>
    (tgO r5.2 x0 8).bind fun _ =>
    (D_X9_setSample x0 1 r5.1 r5.2).bind fun r6 =>
    (gI r6 x0 8 42).bind fun v7 =>
    if v7 ≠ 0 then
      D_X9_ringed_69 x0 0 ((-1)) 0 r6
    else
      D_X9_ringed_69 x0 0 ((-1)) 1 r6
  else
    some σ
set_option maxRecDepth 100000 in
set_option maxHeartbeats 4000000 in
theorem lk_X9_ringed_18 {G : mG} {x0 : Nat} {σ : mS} {R : mS} (hD : D_X9_ringed_18 x0 σ = some R) : Ev G M_X9_ringed 18 [(0, vr x0)] [] σ (.inl none) R := by
  unfold D_X9_ringed_18 at hD
  refine ev_aload_n dX9_ringed_18 0 rfl rfl ?_
  obtain ⟨v1, g, hD⟩ := bd hD
  refine ew_getI 8 42 dX9_ringed_19 rfl (Nat.le_of_ble_eq_true rfl) w_1307 in_X9 rfl g ?_
  by_cases c : v1 ≤ 0
  · rw [if_pos c] at hD
    refine ev_if_le_t (tgt := 26) dX9_ringed_22 (by decide) c ?_
    refine ev_aload_n dX9_ringed_26 0 rfl rfl ?_
    refine ev_aload_n dX9_ringed_27 0 rfl rfl ?_
    obtain ⟨v2, g, hD⟩ := bd hD
    refine ew_getI 8 45 dX9_ringed_28 rfl (Nat.le_of_ble_eq_true rfl) w_1310 in_X9 rfl g ?_
    obtain ⟨_, g0, hD⟩ := bd hD
    obtain ⟨r3, g, hD⟩ := bd hD
    refine ew_callV0 (as := [vi v2]) (a := x0) (rest := []) dX9_ringed_31 v_X9_fresh w_1507 rfl (Nat.le_of_ble_eq_true rfl) rfl rfl g0 (Nat.le_of_ble_eq_true rfl) (Nat.le_of_ble_eq_true rfl) (ct_X9_fresh g) ?_
    refine ev_aload_n dX9_ringed_34 0 rfl rfl ?_
    refine ev_iconst dX9_ringed_35 (mi_c rfl) ?_
    refine ev_iconst dX9_ringed_36 (mi_c rfl) ?_
    obtain ⟨_, g0, hD⟩ := bd hD
    obtain ⟨r4, g, hD⟩ := bd hD
    refine ew_callV0 (as := [vi 0, vi 1]) (a := x0) (rest := []) dX9_ringed_37 v_X9_setSample w_1523 rfl (Nat.le_of_ble_eq_true rfl) rfl rfl g0 (Nat.le_of_ble_eq_true rfl) (Nat.le_of_ble_eq_true rfl) (ct_X9_setSample g) ?_
    refine ev_aload_n dX9_ringed_40 0 rfl rfl ?_
    refine ev_iconst dX9_ringed_41 (mi_c rfl) ?_
    refine ev_aload_n dX9_ringed_42 0 rfl rfl ?_
    refine ev_iconst dX9_ringed_43 (mi_c rfl) ?_
    refine ev_sp dX9_ringed_44 rfl ?_
    obtain ⟨_, g0, hD⟩ := bd hD
    obtain ⟨r5, g, hD⟩ := bd hD
    refine ew_callVv (as := [vi 0, vi 999]) (a := x0) (rest := [vi 1, vr x0]) dX9_ringed_47 v_X9_number w_1480 rfl (Nat.le_of_ble_eq_true rfl) rfl rfl g0 (Nat.le_of_ble_eq_true rfl) (Nat.le_of_ble_eq_true rfl) (ct_X9_number g) ?_
    obtain ⟨_, g0, hD⟩ := bd hD
    obtain ⟨r6, g, hD⟩ := bd hD
    refine ew_callV0 (as := [vi 1, vi r5.1]) (a := x0) (rest := []) dX9_ringed_50 v_X9_setSample w_1523 rfl (Nat.le_of_ble_eq_true rfl) rfl rfl g0 (Nat.le_of_ble_eq_true rfl) (Nat.le_of_ble_eq_true rfl) (ct_X9_setSample g) ?_
    refine ev_iconst dX9_ringed_53 (mi_c rfl) ?_
    refine ev_istore_n dX9_ringed_54 rfl (Nat.le_of_ble_eq_true rfl) rfl ?_
    refine ev_iconst dX9_ringed_55 (mi_c rfl) ?_
    refine ev_istore_n dX9_ringed_56 rfl (Nat.le_of_ble_eq_true rfl) rfl ?_
    refine ev_aload_n dX9_ringed_57 2 rfl rfl ?_
    obtain ⟨v7, g, hD⟩ := bd hD
    refine ew_getI 8 42 dX9_ringed_58 rfl (Nat.le_of_ble_eq_true rfl) w_1307 in_X9 rfl g ?_
    by_cases c : v7 ≠ 0
    · rw [if_pos c] at hD
      refine ev_if_ne_t (tgt := 68) dX9_ringed_61 (by decide) c ?_
      refine ev_iconst dX9_ringed_68 (mi_c rfl) ?_
      refine Ev.pick [2, 1, 0] rfl ?_
      exact lk_X9_ringed_69 hD
    · rw [if_neg c] at hD
      refine ev_if_ne_f 68 dX9_ringed_61 (by decide) c ?_
      refine ev_iconst dX9_ringed_64 (mi_c rfl) ?_
      refine ev_goto (tgt := 69) dX9_ringed_65 (by decide) ?_
      refine Ev.pick [2, 1, 0] rfl ?_
      exact lk_X9_ringed_69 hD
  · rw [if_neg c] at hD
    refine ev_if_le_f 26 dX9_ringed_22 (by decide) c ?_
    cases hD
    exact ev_ret none dX9_ringed_25 True.intro
def D_X9_ringed (x0 : Nat) (σ : mS) : Option mS :=
  (gI σ x0 8 45).bind fun v1 =>
  if v1 ≠ 12 then
    D_X9_ringed_18 x0 σ
  else
    (gI σ x0 8 40).bind fun v2 =>
    (tgO σ x0 8).bind fun _ =>
    (D_X9_wrong x0 3 v2 σ).bind fun r3 =>
    D_X9_ringed_18 x0 r3
set_option maxRecDepth 100000 in
set_option maxHeartbeats 4000000 in
theorem lk_X9_ringed {G : mG} {x0 : Nat} {σ : mS} {R : mS} (hD : D_X9_ringed x0 σ = some R) : Ev G M_X9_ringed 0 [(0, vr x0)] [] σ (.inl none) R := by
  unfold D_X9_ringed at hD
  refine ev_aload_n dX9_ringed_0 0 rfl rfl ?_
  obtain ⟨v1, g, hD⟩ := bd hD
  refine ew_getI 8 45 dX9_ringed_1 rfl (Nat.le_of_ble_eq_true rfl) w_1310 in_X9 rfl g ?_
  refine ev_bp dX9_ringed_4 rfl ?_
  by_cases c : v1 ≠ 12
  · rw [if_pos c] at hD
    refine ev_icmp_ne_t (tgt := 18) dX9_ringed_6 (by decide) c ?_
    exact lk_X9_ringed_18 hD
  · rw [if_neg c] at hD
    refine ev_icmp_ne_f 18 dX9_ringed_6 (by decide) c ?_
    refine ev_aload_n dX9_ringed_9 0 rfl rfl ?_
    refine ev_iconst dX9_ringed_10 (mi_c rfl) ?_
    refine ev_aload_n dX9_ringed_11 0 rfl rfl ?_
    obtain ⟨v2, g, hD⟩ := bd hD
    refine ew_getI 8 40 dX9_ringed_12 rfl (Nat.le_of_ble_eq_true rfl) w_1305 in_X9 rfl g ?_
    obtain ⟨_, g0, hD⟩ := bd hD
    obtain ⟨r3, g, hD⟩ := bd hD
    refine ew_callV0 (as := [vi 3, vi v2]) (a := x0) (rest := []) dX9_ringed_15 v_X9_wrong w_1472 rfl (Nat.le_of_ble_eq_true rfl) rfl rfl g0 (Nat.le_of_ble_eq_true rfl) (Nat.le_of_ble_eq_true rfl) (ct_X9_wrong g) ?_
    exact lk_X9_ringed_18 hD
theorem ct_X9_ringed {G : mG} {x0 : Nat} {σ : mS} {R : mS} (hD : D_X9_ringed x0 σ = some R) : Ct G M_X9_ringed [vr x0] σ (.inl none) R := ct_of rfl (by decide +kernel) rfl (Nat.le_of_ble_eq_true rfl) rfl (lk_X9_ringed hD)
def D_X9_lays_ (x0 : Nat) (x1 : Int) (x2 : Int) (x3 : Int) (x4 : Int) (x5 : Int) (σ : mS) : Option mS :=
  (gI σ x0 8 42).bind fun v1 =>
  if v1 ≤ 0 then
    (gR σ x0 8 3).bind fun v2 =>
    (lI σ v2 2).bind fun v3 =>
    (gR σ x0 8 3).bind fun v4 =>
    (sI σ v4 (mw (3 + (mw (5 * v3)))) x1).bind fun s5 =>
    (gR s5 x0 8 3).bind fun v6 =>
    (sI s5 v6 (mw ((mw (3 + (mw (5 * v3)))) + 1)) x2).bind fun s7 =>
    (gR s7 x0 8 3).bind fun v8 =>
    (sI s7 v8 (mw ((mw (3 + (mw (5 * v3)))) + 2)) x3).bind fun s9 =>
    (gR s9 x0 8 3).bind fun v10 =>
    (sI s9 v10 (mw ((mw (3 + (mw (5 * v3)))) + 3)) x4).bind fun s11 =>
    (gR s11 x0 8 3).bind fun v12 =>
    (sI s11 v12 (mw ((mw (3 + (mw (5 * v3)))) + 4)) x5).bind fun s13 =>
    (gR s13 x0 8 3).bind fun v14 =>
    (lI s13 v14 2).bind fun v15 =>
    (sI s13 v14 2 (mw (v15 + 1))).bind fun s16 =>
    some s16
  else
    some σ
set_option maxRecDepth 100000 in
set_option maxHeartbeats 4000000 in
theorem lk_X9_lays_ {G : mG} {x0 : Nat} {x1 : Int} {x2 : Int} {x3 : Int} {x4 : Int} {x5 : Int} {σ : mS} {R : mS} (hD : D_X9_lays_ x0 x1 x2 x3 x4 x5 σ = some R) : Ev G M_X9_lays_ 0 [(0, vr x0), (1, vi x1), (2, vi x2), (3, vi x3), (4, vi x4), (5, vi x5)] [] σ (.inl none) R := by
  unfold D_X9_lays_ at hD
  refine ev_aload_n dX9_lays__0 0 rfl rfl ?_
  obtain ⟨v1, g, hD⟩ := bd hD
  refine ew_getI 8 42 dX9_lays__1 rfl (Nat.le_of_ble_eq_true rfl) w_1307 in_X9 rfl g ?_
  by_cases c : v1 ≤ 0
  · rw [if_pos c] at hD
    refine ev_if_le_t (tgt := 8) dX9_lays__4 (by decide) c ?_
    refine ev_iconst dX9_lays__8 (mi_c rfl) ?_
    refine ev_iconst dX9_lays__9 (mi_c rfl) ?_
    refine ev_aload_n dX9_lays__10 0 rfl rfl ?_
    obtain ⟨v2, g, hD⟩ := bd hD
    refine ew_getR 8 3 dX9_lays__11 rfl (Nat.le_of_ble_eq_true rfl) w_1268 in_X9 rfl g ?_
    refine ev_iconst dX9_lays__14 (mi_c rfl) ?_
    obtain ⟨v3, g, hD⟩ := bd hD
    refine ew_iald dX9_lays__15 g ?_
    refine ev_imul dX9_lays__16 ?_
    refine ev_iadd dX9_lays__17 ?_
    refine ev_istore dX9_lays__18 (Nat.le_of_ble_eq_true rfl) rfl ?_
    refine ev_aload_n dX9_lays__20 1 rfl rfl ?_
    obtain ⟨v4, g, hD⟩ := bd hD
    refine ew_getR 8 3 dX9_lays__21 rfl (Nat.le_of_ble_eq_true rfl) w_1268 in_X9 rfl g ?_
    refine ev_iload dX9_lays__24 0 rfl ?_
    refine ev_iload_n dX9_lays__26 2 rfl rfl ?_
    obtain ⟨s5, g, hD⟩ := bd hD
    refine ew_iast dX9_lays__27 g ?_
    refine ev_aload_n dX9_lays__28 1 rfl rfl ?_
    obtain ⟨v6, g, hD⟩ := bd hD
    refine ew_getR 8 3 dX9_lays__29 rfl (Nat.le_of_ble_eq_true rfl) w_1268 in_X9 rfl g ?_
    refine ev_iload dX9_lays__32 0 rfl ?_
    refine ev_iconst dX9_lays__34 (mi_c rfl) ?_
    refine ev_iadd dX9_lays__35 ?_
    refine ev_iload_n dX9_lays__36 3 rfl rfl ?_
    obtain ⟨s7, g, hD⟩ := bd hD
    refine ew_iast dX9_lays__37 g ?_
    refine ev_aload_n dX9_lays__38 1 rfl rfl ?_
    obtain ⟨v8, g, hD⟩ := bd hD
    refine ew_getR 8 3 dX9_lays__39 rfl (Nat.le_of_ble_eq_true rfl) w_1268 in_X9 rfl g ?_
    refine ev_iload dX9_lays__42 0 rfl ?_
    refine ev_iconst dX9_lays__44 (mi_c rfl) ?_
    refine ev_iadd dX9_lays__45 ?_
    refine ev_iload_n dX9_lays__46 4 rfl rfl ?_
    obtain ⟨s9, g, hD⟩ := bd hD
    refine ew_iast dX9_lays__47 g ?_
    refine ev_aload_n dX9_lays__48 1 rfl rfl ?_
    obtain ⟨v10, g, hD⟩ := bd hD
    refine ew_getR 8 3 dX9_lays__49 rfl (Nat.le_of_ble_eq_true rfl) w_1268 in_X9 rfl g ?_
    refine ev_iload dX9_lays__52 0 rfl ?_
    refine ev_iconst dX9_lays__54 (mi_c rfl) ?_
    refine ev_iadd dX9_lays__55 ?_
    refine ev_iload dX9_lays__56 5 rfl ?_
    obtain ⟨s11, g, hD⟩ := bd hD
    refine ew_iast dX9_lays__58 g ?_
    refine ev_aload_n dX9_lays__59 1 rfl rfl ?_
    obtain ⟨v12, g, hD⟩ := bd hD
    refine ew_getR 8 3 dX9_lays__60 rfl (Nat.le_of_ble_eq_true rfl) w_1268 in_X9 rfl g ?_
    refine ev_iload dX9_lays__63 0 rfl ?_
    refine ev_iconst dX9_lays__65 (mi_c rfl) ?_
    refine ev_iadd dX9_lays__66 ?_
    refine ev_iload dX9_lays__67 6 rfl ?_
    obtain ⟨s13, g, hD⟩ := bd hD
    refine ew_iast dX9_lays__69 g ?_
    refine ev_aload_n dX9_lays__70 1 rfl rfl ?_
    obtain ⟨v14, g, hD⟩ := bd hD
    refine ew_getR 8 3 dX9_lays__71 rfl (Nat.le_of_ble_eq_true rfl) w_1268 in_X9 rfl g ?_
    refine ev_iconst dX9_lays__74 (mi_c rfl) ?_
    refine ev_dup2 dX9_lays__75 rfl rfl ?_
    obtain ⟨v15, g, hD⟩ := bd hD
    refine ew_iald dX9_lays__76 g ?_
    refine ev_iconst dX9_lays__77 (mi_c rfl) ?_
    refine ev_iadd dX9_lays__78 ?_
    obtain ⟨s16, g, hD⟩ := bd hD
    refine ew_iast dX9_lays__79 g ?_
    cases hD
    exact ev_ret none dX9_lays__80 True.intro
  · rw [if_neg c] at hD
    refine ev_if_le_f 8 dX9_lays__4 (by decide) c ?_
    cases hD
    exact ev_ret none dX9_lays__7 True.intro
theorem ct_X9_lays_ {G : mG} {x0 : Nat} {x1 : Int} {x2 : Int} {x3 : Int} {x4 : Int} {x5 : Int} {σ : mS} {R : mS} (hD : D_X9_lays_ x0 x1 x2 x3 x4 x5 σ = some R) : Ct G M_X9_lays_ [vr x0, vi x1, vi x2, vi x3, vi x4, vi x5] σ (.inl none) R := ct_of rfl (by decide +kernel) rfl (Nat.le_of_ble_eq_true rfl) rfl (lk_X9_lays_ hD)
def D_X9_isRuleWord_30 (σ : mS) : Option (Int × mS) :=
  (bO 1).bind fun v1 =>
  some (v1, σ)
set_option maxRecDepth 100000 in
set_option maxHeartbeats 4000000 in
theorem lk_X9_isRuleWord_30 {G : mG} {σ : mS} {R : (Int × mS)} (hD : D_X9_isRuleWord_30  σ = some R) : Ev G M_X9_isRuleWord 30 [] [] σ (.inl (some (vi R.1))) R.2 := by
  unfold D_X9_isRuleWord_30 at hD
  refine ev_iconst dX9_isRuleWord_30 (mi_c rfl) ?_
  obtain ⟨v1, gb, hD⟩ := bd hD
  cases hD
  exact ew_retb dX9_isRuleWord_31 rfl gb
def D_X9_isRuleWord (x0 : Nat) (x1 : Nat) (σ : mS) : Option (Int × mS) :=
  (tgO σ x0 8).bind fun _ =>
  (D_X9_passes x0 x1 σ).bind fun r1 =>
  if r1.1 ≠ 0 then
    (gR r1.2 x0 8 3).bind fun v2 =>
    (lI r1.2 v2 2).bind fun v3 =>
    if v3 ≠ 24 then
      D_X9_isRuleWord_30  r1.2
    else
      (gI r1.2 x0 8 40).bind fun v4 =>
      (tgO r1.2 x0 8).bind fun _ =>
      (D_X9_wrong x0 3 v4 r1.2).bind fun r5 =>
      D_X9_isRuleWord_30  r5
  else
    (bO 0).bind fun v6 =>
    some (v6, r1.2)
set_option maxRecDepth 100000 in
set_option maxHeartbeats 4000000 in
theorem lk_X9_isRuleWord {G : mG} {x0 : Nat} {x1 : Nat} {σ : mS} {R : (Int × mS)} (hD : D_X9_isRuleWord x0 x1 σ = some R) : Ev G M_X9_isRuleWord 0 [(0, vr x0), (1, vr x1)] [] σ (.inl (some (vi R.1))) R.2 := by
  unfold D_X9_isRuleWord at hD
  refine ev_aload_n dX9_isRuleWord_0 0 rfl rfl ?_
  refine ev_aload_n dX9_isRuleWord_1 1 rfl rfl ?_
  obtain ⟨_, g0, hD⟩ := bd hD
  obtain ⟨r1, g, hD⟩ := bd hD
  refine ew_callVv (as := [vr x1]) (a := x0) (rest := []) dX9_isRuleWord_2 v_X9_passes w_1450 rfl (Nat.le_of_ble_eq_true rfl) rfl rfl g0 (Nat.le_of_ble_eq_true rfl) (Nat.le_of_ble_eq_true rfl) (ct_X9_passes g) ?_
  by_cases c : r1.1 ≠ 0
  · rw [if_pos c] at hD
    refine ev_if_ne_t (tgt := 10) dX9_isRuleWord_5 (by decide) c ?_
    refine ev_aload_n dX9_isRuleWord_10 0 rfl rfl ?_
    obtain ⟨v2, g, hD⟩ := bd hD
    refine ew_getR 8 3 dX9_isRuleWord_11 rfl (Nat.le_of_ble_eq_true rfl) w_1268 in_X9 rfl g ?_
    refine ev_iconst dX9_isRuleWord_14 (mi_c rfl) ?_
    obtain ⟨v3, g, hD⟩ := bd hD
    refine ew_iald dX9_isRuleWord_15 g ?_
    refine ev_bp dX9_isRuleWord_16 rfl ?_
    by_cases c : v3 ≠ 24
    · rw [if_pos c] at hD
      refine ev_icmp_ne_t (tgt := 30) dX9_isRuleWord_18 (by decide) c ?_
      refine Ev.pick [] rfl ?_
      exact lk_X9_isRuleWord_30 hD
    · rw [if_neg c] at hD
      refine ev_icmp_ne_f 30 dX9_isRuleWord_18 (by decide) c ?_
      refine ev_aload_n dX9_isRuleWord_21 0 rfl rfl ?_
      refine ev_iconst dX9_isRuleWord_22 (mi_c rfl) ?_
      refine ev_aload_n dX9_isRuleWord_23 0 rfl rfl ?_
      obtain ⟨v4, g, hD⟩ := bd hD
      refine ew_getI 8 40 dX9_isRuleWord_24 rfl (Nat.le_of_ble_eq_true rfl) w_1305 in_X9 rfl g ?_
      obtain ⟨_, g0, hD⟩ := bd hD
      obtain ⟨r5, g, hD⟩ := bd hD
      refine ew_callV0 (as := [vi 3, vi v4]) (a := x0) (rest := []) dX9_isRuleWord_27 v_X9_wrong w_1472 rfl (Nat.le_of_ble_eq_true rfl) rfl rfl g0 (Nat.le_of_ble_eq_true rfl) (Nat.le_of_ble_eq_true rfl) (ct_X9_wrong g) ?_
      refine Ev.pick [] rfl ?_
      exact lk_X9_isRuleWord_30 hD
  · rw [if_neg c] at hD
    refine ev_if_ne_f 10 dX9_isRuleWord_5 (by decide) c ?_
    refine ev_iconst dX9_isRuleWord_8 (mi_c rfl) ?_
    obtain ⟨v6, gb, hD⟩ := bd hD
    cases hD
    exact ew_retb dX9_isRuleWord_9 rfl gb
theorem ct_X9_isRuleWord {G : mG} {x0 : Nat} {x1 : Nat} {σ : mS} {R : (Int × mS)} (hD : D_X9_isRuleWord x0 x1 σ = some R) : Ct G M_X9_isRuleWord [vr x0, vr x1] σ (.inl (some (vi R.1))) R.2 := ct_of rfl (by decide +kernel) rfl (Nat.le_of_ble_eq_true rfl) rfl (lk_X9_isRuleWord hD)
def D_X9_beforeLine_53 (x0 : Nat) (x1 : Int) (x2 : Int) (x3 : Int) (y0 : Int) (σ : mS) : Option mS :=
  (tgO σ x0 8).bind fun _ =>
  (D_X9_lays_ x0 0 x1 x2 x3 y0 σ).bind fun r1 =>
  some r1
set_option maxRecDepth 100000 in
set_option maxHeartbeats 4000000 in
theorem lk_X9_beforeLine_53 {G : mG} {x0 : Nat} {x1 : Int} {x2 : Int} {x3 : Int} {y0 : Int} {σ : mS} {R : mS} (hD : D_X9_beforeLine_53 x0 x1 x2 x3 y0 σ = some R) : Ev G M_X9_beforeLine 53 [(0, vr x0), (1, vi x1), (2, vi x2), (3, vi x3)] [vi y0] σ (.inl none) R := by
  unfold D_X9_beforeLine_53 at hD
  refine ev_istore dX9_beforeLine_53 (Nat.le_of_ble_eq_true rfl) rfl ?_
  refine ev_aload_n dX9_beforeLine_55 1 rfl rfl ?_
  refine ev_iconst dX9_beforeLine_56 (mi_c rfl) ?_
  refine ev_iload_n dX9_beforeLine_57 2 rfl rfl ?_
  refine ev_iload_n dX9_beforeLine_58 3 rfl rfl ?_
  refine ev_iload_n dX9_beforeLine_59 4 rfl rfl ?_
  refine ev_iload dX9_beforeLine_60 0 rfl ?_
  obtain ⟨_, g0, hD⟩ := bd hD
  obtain ⟨r1, g, hD⟩ := bd hD
  refine ew_callV0 (as := [vi 0, vi x1, vi x2, vi x3, vi y0]) (a := x0) (rest := []) dX9_beforeLine_62 v_X9_lays_ w_1553 rfl (Nat.le_of_ble_eq_true rfl) rfl rfl g0 (Nat.le_of_ble_eq_true rfl) (Nat.le_of_ble_eq_true rfl) (ct_X9_lays_ g) ?_
  cases hD
  exact ev_ret none dX9_beforeLine_65 True.intro
def D_X9_beforeLine_31 (x0 : Nat) (x1 : Int) (x2 : Int) (y0 : Int) (σ : mS) : Option mS :=
  (tgO σ x0 8).bind fun _ =>
  (D_X9_isDigit x0 σ).bind fun r1 =>
  if r1.1 = 0 then
    D_X9_beforeLine_53 x0 x1 x2 y0 999 r1.2
  else
    (tgO r1.2 x0 8).bind fun _ =>
    (D_X9_number x0 y0 999 r1.2).bind fun r2 =>
    D_X9_beforeLine_53 x0 x1 x2 y0 r2.1 r2.2
set_option maxRecDepth 100000 in
set_option maxHeartbeats 4000000 in
theorem lk_X9_beforeLine_31 {G : mG} {x0 : Nat} {x1 : Int} {x2 : Int} {y0 : Int} {σ : mS} {R : mS} (hD : D_X9_beforeLine_31 x0 x1 x2 y0 σ = some R) : Ev G M_X9_beforeLine 31 [(0, vr x0), (1, vi x1), (2, vi x2)] [vi y0] σ (.inl none) R := by
  unfold D_X9_beforeLine_31 at hD
  refine ev_istore_n dX9_beforeLine_31 rfl (Nat.le_of_ble_eq_true rfl) rfl ?_
  refine ev_aload_n dX9_beforeLine_32 1 rfl rfl ?_
  obtain ⟨_, g0, hD⟩ := bd hD
  obtain ⟨r1, g, hD⟩ := bd hD
  refine ew_callVv (as := []) (a := x0) (rest := []) dX9_beforeLine_33 v_X9_isDigit w_1484 rfl (Nat.le_of_ble_eq_true rfl) rfl rfl g0 (Nat.le_of_ble_eq_true rfl) (Nat.le_of_ble_eq_true rfl) (ct_X9_isDigit g) ?_
  by_cases c : r1.1 = 0
  · rw [if_pos c] at hD
    refine ev_if_eq_t (tgt := 50) dX9_beforeLine_36 (by decide) c ?_
    refine ev_sp dX9_beforeLine_50 rfl ?_
    refine Ev.pick [1, 2, 3, 0] rfl ?_
    exact lk_X9_beforeLine_53 hD
  · rw [if_neg c] at hD
    refine ev_if_eq_f 50 dX9_beforeLine_36 (by decide) c ?_
    refine ev_aload_n dX9_beforeLine_39 1 rfl rfl ?_
    refine ev_iload_n dX9_beforeLine_40 0 rfl rfl ?_
    refine ev_sp dX9_beforeLine_41 rfl ?_
    obtain ⟨_, g0, hD⟩ := bd hD
    obtain ⟨r2, g, hD⟩ := bd hD
    refine ew_callVv (as := [vi y0, vi 999]) (a := x0) (rest := []) dX9_beforeLine_44 v_X9_number w_1480 rfl (Nat.le_of_ble_eq_true rfl) rfl rfl g0 (Nat.le_of_ble_eq_true rfl) (Nat.le_of_ble_eq_true rfl) (ct_X9_number g) ?_
    refine ev_goto (tgt := 53) dX9_beforeLine_47 (by decide) ?_
    refine Ev.pick [1, 2, 3, 0] rfl ?_
    exact lk_X9_beforeLine_53 hD
def D_X9_beforeLine (x0 : Nat) (σ : mS) : Option mS :=
  (tgO σ x0 8).bind fun _ =>
  (D_X9_known x0 0 σ).bind fun r1 =>
  (tgO r1.2 x0 8).bind fun _ =>
  (D_X9_known x0 0 r1.2).bind fun r2 =>
  (tgO r2.2 x0 8).bind fun _ =>
  (D_X9_isDigit x0 r2.2).bind fun r3 =>
  if r3.1 = 0 then
    D_X9_beforeLine_31 x0 r1.1 r2.1 0 r3.2
  else
    (tgO r3.2 x0 8).bind fun _ =>
    (D_X9_number x0 0 999 r3.2).bind fun r4 =>
    D_X9_beforeLine_31 x0 r1.1 r2.1 r4.1 r4.2
set_option maxRecDepth 100000 in
set_option maxHeartbeats 4000000 in
theorem lk_X9_beforeLine {G : mG} {x0 : Nat} {σ : mS} {R : mS} (hD : D_X9_beforeLine x0 σ = some R) : Ev G M_X9_beforeLine 0 [(0, vr x0)] [] σ (.inl none) R := by
  unfold D_X9_beforeLine at hD
  refine ev_aload_n dX9_beforeLine_0 0 rfl rfl ?_
  refine ev_iconst dX9_beforeLine_1 (mi_c rfl) ?_
  obtain ⟨_, g0, hD⟩ := bd hD
  obtain ⟨r1, g, hD⟩ := bd hD
  refine ew_callVv (as := [vi 0]) (a := x0) (rest := []) dX9_beforeLine_2 v_X9_known w_1541 rfl (Nat.le_of_ble_eq_true rfl) rfl rfl g0 (Nat.le_of_ble_eq_true rfl) (Nat.le_of_ble_eq_true rfl) (ct_X9_known g) ?_
  refine ev_istore_n dX9_beforeLine_5 rfl (Nat.le_of_ble_eq_true rfl) rfl ?_
  refine ev_aload_n dX9_beforeLine_6 1 rfl rfl ?_
  refine ev_iconst dX9_beforeLine_7 (mi_c rfl) ?_
  obtain ⟨_, g0, hD⟩ := bd hD
  obtain ⟨r2, g, hD⟩ := bd hD
  refine ew_callVv (as := [vi 0]) (a := x0) (rest := []) dX9_beforeLine_8 v_X9_known w_1541 rfl (Nat.le_of_ble_eq_true rfl) rfl rfl g0 (Nat.le_of_ble_eq_true rfl) (Nat.le_of_ble_eq_true rfl) (ct_X9_known g) ?_
  refine ev_istore_n dX9_beforeLine_11 rfl (Nat.le_of_ble_eq_true rfl) rfl ?_
  refine ev_aload_n dX9_beforeLine_12 2 rfl rfl ?_
  obtain ⟨_, g0, hD⟩ := bd hD
  obtain ⟨r3, g, hD⟩ := bd hD
  refine ew_callVv (as := []) (a := x0) (rest := []) dX9_beforeLine_13 v_X9_isDigit w_1484 rfl (Nat.le_of_ble_eq_true rfl) rfl rfl g0 (Nat.le_of_ble_eq_true rfl) (Nat.le_of_ble_eq_true rfl) (ct_X9_isDigit g) ?_
  by_cases c : r3.1 = 0
  · rw [if_pos c] at hD
    refine ev_if_eq_t (tgt := 30) dX9_beforeLine_16 (by decide) c ?_
    refine ev_iconst dX9_beforeLine_30 (mi_c rfl) ?_
    refine Ev.pick [2, 1, 0] rfl ?_
    exact lk_X9_beforeLine_31 hD
  · rw [if_neg c] at hD
    refine ev_if_eq_f 30 dX9_beforeLine_16 (by decide) c ?_
    refine ev_aload_n dX9_beforeLine_19 2 rfl rfl ?_
    refine ev_iconst dX9_beforeLine_20 (mi_c rfl) ?_
    refine ev_sp dX9_beforeLine_21 rfl ?_
    obtain ⟨_, g0, hD⟩ := bd hD
    obtain ⟨r4, g, hD⟩ := bd hD
    refine ew_callVv (as := [vi 0, vi 999]) (a := x0) (rest := []) dX9_beforeLine_24 v_X9_number w_1480 rfl (Nat.le_of_ble_eq_true rfl) rfl rfl g0 (Nat.le_of_ble_eq_true rfl) (Nat.le_of_ble_eq_true rfl) (ct_X9_number g) ?_
    refine ev_goto (tgt := 31) dX9_beforeLine_27 (by decide) ?_
    refine Ev.pick [2, 1, 0] rfl ?_
    exact lk_X9_beforeLine_31 hD
theorem ct_X9_beforeLine {G : mG} {x0 : Nat} {σ : mS} {R : mS} (hD : D_X9_beforeLine x0 σ = some R) : Ct G M_X9_beforeLine [vr x0] σ (.inl none) R := ct_of rfl (by decide +kernel) rfl (Nat.le_of_ble_eq_true rfl) rfl (lk_X9_beforeLine hD)
def D_X9_phaseLine_64 (rec : Nat → Int → mS → Option ((Int × mS) ⊕ mS)) (x0 : Nat) (x1 : Int) (σ : mS) : Option ((Int × mS) ⊕ mS) :=
  (tgO σ x0 8).bind fun _ =>
  (D_X9_known x0 0 σ).bind fun r1 =>
  (gI r1.2 x0 8 42).bind fun v2 =>
  if v2 ≤ 0 then
    (gR r1.2 x0 8 35).bind fun v3 =>
    (gI r1.2 x0 8 46).bind fun v4 =>
    (sI r1.2 v3 (mw ((mw (6 * v4)) + x1)) r1.1).bind fun s5 =>
    rec x0 (mw (x1 + 1)) s5
  else
    some (Sum.inr r1.2)
set_option maxRecDepth 100000 in
set_option maxHeartbeats 4000000 in
theorem lk_X9_phaseLine_64 {G : mG} {rec : Nat → Int → mS → Option ((Int × mS) ⊕ mS)} {x0 : Nat} {x1 : Int} {σ : mS} {R : ((Int × mS) ⊕ mS)} {r : mX} {τ : mS} (hD : D_X9_phaseLine_64 rec x0 x1 σ = some R) (hrec : ∀ {x0 : Nat} {x1 : Int} {σ : mS} {R : ((Int × mS) ⊕ mS)}, rec x0 x1 σ = some R → ∀ {r : mX} {τ : mS}, (∀ z, R = (Sum.inl z) → Ev G M_X9_phaseLine 99 [(0, vr x0), (1, vi (z.1))] [] z.2 r τ) ∧ (∀ z, R = (Sum.inr z) → r = .inl none ∧ τ = z) → Ev G M_X9_phaseLine 38 [(0, vr x0), (1, vi x1)] [] σ r τ) (hk : (∀ z, R = (Sum.inl z) → Ev G M_X9_phaseLine 99 [(0, vr x0), (1, vi (z.1))] [] z.2 r τ) ∧ (∀ z, R = (Sum.inr z) → r = .inl none ∧ τ = z)) : Ev G M_X9_phaseLine 64 [(0, vr x0), (1, vi x1)] [] σ r τ := by
  unfold D_X9_phaseLine_64 at hD
  refine ev_aload_n dX9_phaseLine_64 0 rfl rfl ?_
  refine ev_iconst dX9_phaseLine_65 (mi_c rfl) ?_
  obtain ⟨_, g0, hD⟩ := bd hD
  obtain ⟨r1, g, hD⟩ := bd hD
  refine ew_callVv (as := [vi 0]) (a := x0) (rest := []) dX9_phaseLine_66 v_X9_known w_1541 rfl (Nat.le_of_ble_eq_true rfl) rfl rfl g0 (Nat.le_of_ble_eq_true rfl) (Nat.le_of_ble_eq_true rfl) (ct_X9_known g) ?_
  refine ev_istore_n dX9_phaseLine_69 rfl (Nat.le_of_ble_eq_true rfl) rfl ?_
  refine ev_aload_n dX9_phaseLine_70 1 rfl rfl ?_
  obtain ⟨v2, g, hD⟩ := bd hD
  refine ew_getI 8 42 dX9_phaseLine_71 rfl (Nat.le_of_ble_eq_true rfl) w_1307 in_X9 rfl g ?_
  by_cases c : v2 ≤ 0
  · rw [if_pos c] at hD
    refine ev_if_le_t (tgt := 78) dX9_phaseLine_74 (by decide) c ?_
    refine ev_aload_n dX9_phaseLine_78 1 rfl rfl ?_
    obtain ⟨v3, g, hD⟩ := bd hD
    refine ew_getR 8 35 dX9_phaseLine_79 rfl (Nat.le_of_ble_eq_true rfl) w_1300 in_X9 rfl g ?_
    refine ev_bp dX9_phaseLine_82 rfl ?_
    refine ev_aload_n dX9_phaseLine_84 1 rfl rfl ?_
    obtain ⟨v4, g, hD⟩ := bd hD
    refine ew_getI 8 46 dX9_phaseLine_85 rfl (Nat.le_of_ble_eq_true rfl) w_1311 in_X9 rfl g ?_
    refine ev_imul dX9_phaseLine_88 ?_
    refine ev_iload_n dX9_phaseLine_89 2 rfl rfl ?_
    refine ev_iadd dX9_phaseLine_90 ?_
    refine ev_iload_n dX9_phaseLine_91 0 rfl rfl ?_
    obtain ⟨s5, g, hD⟩ := bd hD
    refine ew_iast dX9_phaseLine_92 g ?_
    refine ev_iinc dX9_phaseLine_93 2 rfl (Nat.le_of_ble_eq_true rfl) rfl ?_
    refine ev_goto (tgt := 38) dX9_phaseLine_96 (by decide) ?_
    refine Ev.pick [2, 0] rfl ?_
    exact hrec hD hk
  · rw [if_neg c] at hD
    refine ev_if_le_f 78 dX9_phaseLine_74 (by decide) c ?_
    cases hD
    obtain ⟨rfl, rfl⟩ := hk.2 _ rfl
    exact ev_ret none dX9_phaseLine_77 True.intro
def D_X9_phaseLine_49 (rec : Nat → Int → mS → Option ((Int × mS) ⊕ mS)) (x0 : Nat) (x1 : Int) (σ : mS) : Option ((Int × mS) ⊕ mS) :=
  if x1 ≠ 6 then
    D_X9_phaseLine_64 rec x0 x1 σ
  else
    (gI σ x0 8 39).bind fun v1 =>
    (tgO σ x0 8).bind fun _ =>
    (D_X9_wrong x0 3 v1 σ).bind fun r2 =>
    D_X9_phaseLine_64 rec x0 x1 r2
set_option maxRecDepth 100000 in
set_option maxHeartbeats 4000000 in
theorem lk_X9_phaseLine_49 {G : mG} {rec : Nat → Int → mS → Option ((Int × mS) ⊕ mS)} {x0 : Nat} {x1 : Int} {σ : mS} {R : ((Int × mS) ⊕ mS)} {r : mX} {τ : mS} (hD : D_X9_phaseLine_49 rec x0 x1 σ = some R) (hrec : ∀ {x0 : Nat} {x1 : Int} {σ : mS} {R : ((Int × mS) ⊕ mS)}, rec x0 x1 σ = some R → ∀ {r : mX} {τ : mS}, (∀ z, R = (Sum.inl z) → Ev G M_X9_phaseLine 99 [(0, vr x0), (1, vi (z.1))] [] z.2 r τ) ∧ (∀ z, R = (Sum.inr z) → r = .inl none ∧ τ = z) → Ev G M_X9_phaseLine 38 [(0, vr x0), (1, vi x1)] [] σ r τ) (hk : (∀ z, R = (Sum.inl z) → Ev G M_X9_phaseLine 99 [(0, vr x0), (1, vi (z.1))] [] z.2 r τ) ∧ (∀ z, R = (Sum.inr z) → r = .inl none ∧ τ = z)) : Ev G M_X9_phaseLine 49 [(0, vr x0), (1, vi x1)] [] σ r τ := by
  unfold D_X9_phaseLine_49 at hD
  refine ev_iload_n dX9_phaseLine_49 1 rfl rfl ?_
  refine ev_bp dX9_phaseLine_50 rfl ?_
  by_cases c : x1 ≠ 6
  · rw [if_pos c] at hD
    refine ev_icmp_ne_t (tgt := 64) dX9_phaseLine_52 (by decide) c ?_
    exact lk_X9_phaseLine_64 hD hrec hk
  · rw [if_neg c] at hD
    refine ev_icmp_ne_f 64 dX9_phaseLine_52 (by decide) c ?_
    refine ev_aload_n dX9_phaseLine_55 0 rfl rfl ?_
    refine ev_iconst dX9_phaseLine_56 (mi_c rfl) ?_
    refine ev_aload_n dX9_phaseLine_57 0 rfl rfl ?_
    obtain ⟨v1, g, hD⟩ := bd hD
    refine ew_getI 8 39 dX9_phaseLine_58 rfl (Nat.le_of_ble_eq_true rfl) w_1304 in_X9 rfl g ?_
    obtain ⟨_, g0, hD⟩ := bd hD
    obtain ⟨r2, g, hD⟩ := bd hD
    refine ew_callV0 (as := [vi 3, vi v1]) (a := x0) (rest := []) dX9_phaseLine_61 v_X9_wrong w_1472 rfl (Nat.le_of_ble_eq_true rfl) rfl rfl g0 (Nat.le_of_ble_eq_true rfl) (Nat.le_of_ble_eq_true rfl) (ct_X9_wrong g) ?_
    exact lk_X9_phaseLine_64 hD hrec hk
def D_X9_phaseLine_38 : Nat → Nat → Int → mS → Option ((Int × mS) ⊕ mS)
  | 0, _, _, _ => none
  | f + 1, x0, x1, σ =>
    if x1 = 0 then
      D_X9_phaseLine_49 (D_X9_phaseLine_38 f) x0 x1 σ
    else
      (tgO σ x0 8).bind fun _ =>
      (D_X9_isWordHere x0 σ).bind fun r1 =>
      if r1.1 = 0 then
        some (Sum.inl (x1, r1.2))
      else
        D_X9_phaseLine_49 (D_X9_phaseLine_38 f) x0 x1 r1.2
set_option maxRecDepth 100000 in
set_option maxHeartbeats 4000000 in
theorem lk_X9_phaseLine_38 {G : mG} (f : Nat) : ∀ {x0 : Nat} {x1 : Int} {σ : mS} {R : ((Int × mS) ⊕ mS)}, D_X9_phaseLine_38 f x0 x1 σ = some R → ∀ {r : mX} {τ : mS}, (∀ z, R = (Sum.inl z) → Ev G M_X9_phaseLine 99 [(0, vr x0), (1, vi (z.1))] [] z.2 r τ) ∧ (∀ z, R = (Sum.inr z) → r = .inl none ∧ τ = z) → Ev G M_X9_phaseLine 38 [(0, vr x0), (1, vi x1)] [] σ r τ := by
  induction f with
  | zero =>
    intros
    rename_i hD _ _ _
    cases hD
  | succ f ih =>
    intro x0 x1 σ R hD r τ hk
    have hrec := @ih
    rw [D_X9_phaseLine_38] at hD
    refine ev_iload_n dX9_phaseLine_38 1 rfl rfl ?_
    by_cases c : x1 = 0
    · rw [if_pos c] at hD
      refine ev_if_eq_t (tgt := 49) dX9_phaseLine_39 (by decide) c ?_
      exact lk_X9_phaseLine_49 hD hrec hk
    · rw [if_neg c] at hD
      refine ev_if_eq_f 49 dX9_phaseLine_39 (by decide) c ?_
      refine ev_aload_n dX9_phaseLine_42 0 rfl rfl ?_
      obtain ⟨_, g0, hD⟩ := bd hD
      obtain ⟨r1, g, hD⟩ := bd hD
      refine ew_callVv (as := []) (a := x0) (rest := []) dX9_phaseLine_43 v_X9_isWordHere w_1454 rfl (Nat.le_of_ble_eq_true rfl) rfl rfl g0 (Nat.le_of_ble_eq_true rfl) (Nat.le_of_ble_eq_true rfl) (ct_X9_isWordHere g) ?_
      by_cases c : r1.1 = 0
      · rw [if_pos c] at hD
        refine ev_if_eq_t (tgt := 99) dX9_phaseLine_46 (by decide) c ?_
        cases hD
        exact hk.1 _ rfl
      · rw [if_neg c] at hD
        refine ev_if_eq_f 99 dX9_phaseLine_46 (by decide) c ?_
        exact lk_X9_phaseLine_49 hD hrec hk
def D_X9_phaseLine_17 (x0 : Nat) (σ : mS) : Option mS :=
  (gI σ x0 8 42).bind fun v1 =>
  if v1 ≤ 0 then
    (gI σ x0 8 46).bind fun v2 =>
    (tgO σ x0 8).bind fun _ =>
    (D_X9_fresh x0 (mw (12 + v2)) σ).bind fun r3 =>
    (D_X9_phaseLine_38 mFU x0 0 r3).bind fun r4 =>
    match r4 with
    | (Sum.inl z5) =>
      (gR z5.2 x0 8 34).bind fun v6 =>
      (gI z5.2 x0 8 46).bind fun v7 =>
      (sI z5.2 v6 v7 z5.1).bind fun s8 =>
      (gI s8 x0 8 46).bind fun v9 =>
      (pI s8 x0 8 46 (mw (v9 + 1))).bind fun s10 =>
      some s10
    | (Sum.inr z11) =>
      some z11
  else
    some σ
set_option maxRecDepth 100000 in
set_option maxHeartbeats 4000000 in
theorem lk_X9_phaseLine_17 {G : mG} {x0 : Nat} {σ : mS} {R : mS} (hD : D_X9_phaseLine_17 x0 σ = some R) : Ev G M_X9_phaseLine 17 [(0, vr x0)] [] σ (.inl none) R := by
  unfold D_X9_phaseLine_17 at hD
  refine ev_aload_n dX9_phaseLine_17 0 rfl rfl ?_
  obtain ⟨v1, g, hD⟩ := bd hD
  refine ew_getI 8 42 dX9_phaseLine_18 rfl (Nat.le_of_ble_eq_true rfl) w_1307 in_X9 rfl g ?_
  by_cases c : v1 ≤ 0
  · rw [if_pos c] at hD
    refine ev_if_le_t (tgt := 25) dX9_phaseLine_21 (by decide) c ?_
    refine ev_aload_n dX9_phaseLine_25 0 rfl rfl ?_
    refine ev_bp dX9_phaseLine_26 rfl ?_
    refine ev_aload_n dX9_phaseLine_28 0 rfl rfl ?_
    obtain ⟨v2, g, hD⟩ := bd hD
    refine ew_getI 8 46 dX9_phaseLine_29 rfl (Nat.le_of_ble_eq_true rfl) w_1311 in_X9 rfl g ?_
    refine ev_iadd dX9_phaseLine_32 ?_
    obtain ⟨_, g0, hD⟩ := bd hD
    obtain ⟨r3, g, hD⟩ := bd hD
    refine ew_callV0 (as := [vi (mw (12 + v2))]) (a := x0) (rest := []) dX9_phaseLine_33 v_X9_fresh w_1507 rfl (Nat.le_of_ble_eq_true rfl) rfl rfl g0 (Nat.le_of_ble_eq_true rfl) (Nat.le_of_ble_eq_true rfl) (ct_X9_fresh g) ?_
    refine ev_iconst dX9_phaseLine_36 (mi_c rfl) ?_
    refine ev_istore_n dX9_phaseLine_37 rfl (Nat.le_of_ble_eq_true rfl) rfl ?_
    obtain ⟨r4, g, hD⟩ := bd hD
    refine Ev.pick [1, 0] rfl ?_
    rcases r4 with z5 | z11
    · refine lk_X9_phaseLine_38 mFU g ⟨(fun _ hz => ?_), (fun _ hz => nomatch hz)⟩
      cases hz
      refine ev_aload_n dX9_phaseLine_99 0 rfl rfl ?_
      obtain ⟨v6, g, hD⟩ := bd hD
      refine ew_getR 8 34 dX9_phaseLine_100 rfl (Nat.le_of_ble_eq_true rfl) w_1299 in_X9 rfl g ?_
      refine ev_aload_n dX9_phaseLine_103 0 rfl rfl ?_
      obtain ⟨v7, g, hD⟩ := bd hD
      refine ew_getI 8 46 dX9_phaseLine_104 rfl (Nat.le_of_ble_eq_true rfl) w_1311 in_X9 rfl g ?_
      refine ev_iload_n dX9_phaseLine_107 1 rfl rfl ?_
      obtain ⟨s8, g, hD⟩ := bd hD
      refine ew_iast dX9_phaseLine_108 g ?_
      refine ev_aload_n dX9_phaseLine_109 0 rfl rfl ?_
      refine ev_dup dX9_phaseLine_110 rfl ?_
      obtain ⟨v9, g, hD⟩ := bd hD
      refine ew_getI 8 46 dX9_phaseLine_111 rfl (Nat.le_of_ble_eq_true rfl) w_1311 in_X9 rfl g ?_
      refine ev_iconst dX9_phaseLine_114 (mi_c rfl) ?_
      refine ev_iadd dX9_phaseLine_115 ?_
      obtain ⟨s10, g, hD⟩ := bd hD
      refine ew_putI 8 46 dX9_phaseLine_116 rfl (Nat.le_of_ble_eq_true rfl) w_1311 in_X9 tyX9_ok nmX9 (Or.inl rfl) rfl g ?_
      cases hD
      exact ev_ret none dX9_phaseLine_119 True.intro
    · refine lk_X9_phaseLine_38 mFU g ⟨(fun _ hz => nomatch hz), (fun _ hz => ?_)⟩
      cases hz
      cases hD
      exact ⟨rfl, rfl⟩
  · rw [if_neg c] at hD
    refine ev_if_le_f 25 dX9_phaseLine_21 (by decide) c ?_
    cases hD
    exact ev_ret none dX9_phaseLine_24 True.intro
def D_X9_phaseLine (x0 : Nat) (σ : mS) : Option mS :=
  (gI σ x0 8 46).bind fun v1 =>
  if v1 ≠ 4 then
    D_X9_phaseLine_17 x0 σ
  else
    (gI σ x0 8 40).bind fun v2 =>
    (tgO σ x0 8).bind fun _ =>
    (D_X9_wrong x0 3 v2 σ).bind fun r3 =>
    D_X9_phaseLine_17 x0 r3
set_option maxRecDepth 100000 in
set_option maxHeartbeats 4000000 in
theorem lk_X9_phaseLine {G : mG} {x0 : Nat} {σ : mS} {R : mS} (hD : D_X9_phaseLine x0 σ = some R) : Ev G M_X9_phaseLine 0 [(0, vr x0)] [] σ (.inl none) R := by
  unfold D_X9_phaseLine at hD
  refine ev_aload_n dX9_phaseLine_0 0 rfl rfl ?_
  obtain ⟨v1, g, hD⟩ := bd hD
  refine ew_getI 8 46 dX9_phaseLine_1 rfl (Nat.le_of_ble_eq_true rfl) w_1311 in_X9 rfl g ?_
  refine ev_iconst dX9_phaseLine_4 (mi_c rfl) ?_
  by_cases c : v1 ≠ 4
  · rw [if_pos c] at hD
    refine ev_icmp_ne_t (tgt := 17) dX9_phaseLine_5 (by decide) c ?_
    exact lk_X9_phaseLine_17 hD
  · rw [if_neg c] at hD
    refine ev_icmp_ne_f 17 dX9_phaseLine_5 (by decide) c ?_
    refine ev_aload_n dX9_phaseLine_8 0 rfl rfl ?_
    refine ev_iconst dX9_phaseLine_9 (mi_c rfl) ?_
    refine ev_aload_n dX9_phaseLine_10 0 rfl rfl ?_
    obtain ⟨v2, g, hD⟩ := bd hD
    refine ew_getI 8 40 dX9_phaseLine_11 rfl (Nat.le_of_ble_eq_true rfl) w_1305 in_X9 rfl g ?_
    obtain ⟨_, g0, hD⟩ := bd hD
    obtain ⟨r3, g, hD⟩ := bd hD
    refine ew_callV0 (as := [vi 3, vi v2]) (a := x0) (rest := []) dX9_phaseLine_14 v_X9_wrong w_1472 rfl (Nat.le_of_ble_eq_true rfl) rfl rfl g0 (Nat.le_of_ble_eq_true rfl) (Nat.le_of_ble_eq_true rfl) (ct_X9_wrong g) ?_
    exact lk_X9_phaseLine_17 hD
theorem ct_X9_phaseLine {G : mG} {x0 : Nat} {σ : mS} {R : mS} (hD : D_X9_phaseLine x0 σ = some R) : Ct G M_X9_phaseLine [vr x0] σ (.inl none) R := ct_of rfl (by decide +kernel) rfl (Nat.le_of_ble_eq_true rfl) rfl (lk_X9_phaseLine hD)
def D_X9_signed_56 : Nat → Nat → Int → mS → Option (Int × mS)
  | 0, _, _, _ => none
  | f + 1, x0, x3, σ =>
    (gI σ x0 8 39).bind fun v1 =>
    (gI σ x0 8 38).bind fun v2 =>
    if v2 ≤ v1 then
      some (x3, σ)
    else
      (gR σ x0 8 30).bind fun v3 =>
      (gI σ x0 8 39).bind fun v4 =>
      (lB σ v3 v4).bind fun v5 =>
      if v5 < 48 then
        some (x3, σ)
      else
        (gR σ x0 8 30).bind fun v6 =>
        (gI σ x0 8 39).bind fun v7 =>
        (lB σ v6 v7).bind fun v8 =>
        if 57 < v8 then
          some (x3, σ)
        else
          (gR σ x0 8 30).bind fun v9 =>
          (gI σ x0 8 39).bind fun v10 =>
          (lB σ v9 v10).bind fun v11 =>
          (gI σ x0 8 39).bind fun v12 =>
          (pI σ x0 8 39 (mw (v12 + 1))).bind fun s13 =>
          (D_X9_signed_56 f) x0 (if 1000000 < (mw ((mw ((mw (10 * x3)) + v11)) - 48)) then 1000000 else (mw ((mw ((mw (10 * x3)) + v11)) - 48))) s13
set_option maxRecDepth 100000 in
set_option maxHeartbeats 4000000 in
theorem lk_X9_signed_56 {G : mG} {x1 : Int} {x2 : Int} (f : Nat) : ∀ {x0 : Nat} {x3 : Int} {σ : mS} {R : (Int × mS)}, D_X9_signed_56 f x0 x3 σ = some R → ∀ {r : mX} {τ : mS}, Ev G M_X9_signed 131 [(0, vr x0), (1, vi x1), (2, vi x2), (3, vi (R.1))] [] R.2 r τ → Ev G M_X9_signed 56 [(0, vr x0), (1, vi x1), (2, vi x2), (3, vi x3)] [] σ r τ := by
  induction f with
  | zero =>
    intros
    rename_i hD _ _ _
    cases hD
  | succ f ih =>
    intro x0 x3 σ R hD r τ hk
    have hrec := @ih
    rw [D_X9_signed_56] at hD
    refine ev_aload_n dX9_signed_56 0 rfl rfl ?_
    obtain ⟨v1, g, hD⟩ := bd hD
    refine ew_getI 8 39 dX9_signed_57 rfl (Nat.le_of_ble_eq_true rfl) w_1304 in_X9 rfl g ?_
    refine ev_aload_n dX9_signed_60 0 rfl rfl ?_
    obtain ⟨v2, g, hD⟩ := bd hD
    refine ew_getI 8 38 dX9_signed_61 rfl (Nat.le_of_ble_eq_true rfl) w_1303 in_X9 rfl g ?_
    by_cases c : v2 ≤ v1
    · rw [if_pos c] at hD
      refine ev_icmp_ge_t (tgt := 131) dX9_signed_64 (by decide) c ?_
      cases hD
      exact hk
    · rw [if_neg c] at hD
      refine ev_icmp_ge_f 131 dX9_signed_64 (by decide) c ?_
      refine ev_aload_n dX9_signed_67 0 rfl rfl ?_
      obtain ⟨v3, g, hD⟩ := bd hD
      refine ew_getR 8 30 dX9_signed_68 rfl (Nat.le_of_ble_eq_true rfl) w_1295 in_X9 rfl g ?_
      refine ev_aload_n dX9_signed_71 0 rfl rfl ?_
      obtain ⟨v4, g, hD⟩ := bd hD
      refine ew_getI 8 39 dX9_signed_72 rfl (Nat.le_of_ble_eq_true rfl) w_1304 in_X9 rfl g ?_
      obtain ⟨v5, g, hD⟩ := bd hD
      refine ew_bald dX9_signed_75 g ?_
      refine ev_bp dX9_signed_76 rfl ?_
      by_cases c : v5 < 48
      · rw [if_pos c] at hD
        refine ev_icmp_lt_t (tgt := 131) dX9_signed_78 (by decide) c ?_
        cases hD
        exact hk
      · rw [if_neg c] at hD
        refine ev_icmp_lt_f 131 dX9_signed_78 (by decide) c ?_
        refine ev_aload_n dX9_signed_81 0 rfl rfl ?_
        obtain ⟨v6, g, hD⟩ := bd hD
        refine ew_getR 8 30 dX9_signed_82 rfl (Nat.le_of_ble_eq_true rfl) w_1295 in_X9 rfl g ?_
        refine ev_aload_n dX9_signed_85 0 rfl rfl ?_
        obtain ⟨v7, g, hD⟩ := bd hD
        refine ew_getI 8 39 dX9_signed_86 rfl (Nat.le_of_ble_eq_true rfl) w_1304 in_X9 rfl g ?_
        obtain ⟨v8, g, hD⟩ := bd hD
        refine ew_bald dX9_signed_89 g ?_
        refine ev_bp dX9_signed_90 rfl ?_
        by_cases c : 57 < v8
        · rw [if_pos c] at hD
          refine ev_icmp_gt_t (tgt := 131) dX9_signed_92 (by decide) c ?_
          cases hD
          exact hk
        · rw [if_neg c] at hD
          refine ev_icmp_gt_f 131 dX9_signed_92 (by decide) c ?_
          refine ev_bp dX9_signed_95 rfl ?_
          refine ev_iload_n dX9_signed_97 3 rfl rfl ?_
          refine ev_imul dX9_signed_98 ?_
          refine ev_aload_n dX9_signed_99 0 rfl rfl ?_
          obtain ⟨v9, g, hD⟩ := bd hD
          refine ew_getR 8 30 dX9_signed_100 rfl (Nat.le_of_ble_eq_true rfl) w_1295 in_X9 rfl g ?_
          refine ev_aload_n dX9_signed_103 0 rfl rfl ?_
          obtain ⟨v10, g, hD⟩ := bd hD
          refine ew_getI 8 39 dX9_signed_104 rfl (Nat.le_of_ble_eq_true rfl) w_1304 in_X9 rfl g ?_
          obtain ⟨v11, g, hD⟩ := bd hD
          refine ew_bald dX9_signed_107 g ?_
          refine ev_iadd dX9_signed_108 ?_
          refine ev_bp dX9_signed_109 rfl ?_
          refine ev_isub dX9_signed_111 ?_
          refine ev_ldc dX9_signed_112 w_1488 (mi_c rfl) ?_
          refine ev_mmin dX9_signed_114 w_1489 w_572 w_133 w_573 (Nat.le_of_ble_eq_true rfl) (Nat.le_of_ble_eq_true rfl) (Nat.le_of_ble_eq_true rfl) ?_
          refine ev_istore_n dX9_signed_117 rfl (Nat.le_of_ble_eq_true rfl) rfl ?_
          refine ev_aload_n dX9_signed_118 1 rfl rfl ?_
          refine ev_dup dX9_signed_119 rfl ?_
          obtain ⟨v12, g, hD⟩ := bd hD
          refine ew_getI 8 39 dX9_signed_120 rfl (Nat.le_of_ble_eq_true rfl) w_1304 in_X9 rfl g ?_
          refine ev_iconst dX9_signed_123 (mi_c rfl) ?_
          refine ev_iadd dX9_signed_124 ?_
          obtain ⟨s13, g, hD⟩ := bd hD
          refine ew_putI 8 39 dX9_signed_125 rfl (Nat.le_of_ble_eq_true rfl) w_1304 in_X9 tyX9_ok nmX9 (Or.inl rfl) rfl g ?_
          refine ev_goto (tgt := 56) dX9_signed_128 (by decide) ?_
          refine Ev.pick [1, 2, 3, 0] rfl ?_
          exact hrec hD hk
def D_X9_signed_154 (y0 : Int) (σ : mS) : Option (Int × mS) :=
  some (y0, σ)
set_option maxRecDepth 100000 in
set_option maxHeartbeats 4000000 in
theorem lk_X9_signed_154 {G : mG} {y0 : Int} {σ : mS} {R : (Int × mS)} (hD : D_X9_signed_154 y0 σ = some R) : Ev G M_X9_signed 154 [] [vi y0] σ (.inl (some (vi R.1))) R.2 := by
  unfold D_X9_signed_154 at hD
  cases hD
  exact ev_ret (some (vi _)) dX9_signed_154 True.intro
def D_X9_signed_144 (x1 : Int) (x3 : Int) (σ : mS) : Option (Int × mS) :=
  if x1 = 0 then
    D_X9_signed_154 x3 σ
  else
    D_X9_signed_154 (mw (-x3)) σ
set_option maxRecDepth 100000 in
set_option maxHeartbeats 4000000 in
theorem lk_X9_signed_144 {G : mG} {x1 : Int} {x3 : Int} {σ : mS} {R : (Int × mS)} (hD : D_X9_signed_144 x1 x3 σ = some R) : Ev G M_X9_signed 144 [(1, vi x1), (3, vi x3)] [] σ (.inl (some (vi R.1))) R.2 := by
  unfold D_X9_signed_144 at hD
  refine ev_iload_n dX9_signed_144 0 rfl rfl ?_
  by_cases c : x1 = 0
  · rw [if_pos c] at hD
    refine ev_if_eq_t (tgt := 153) dX9_signed_145 (by decide) c ?_
    refine ev_iload_n dX9_signed_153 1 rfl rfl ?_
    refine Ev.pick [] rfl ?_
    exact lk_X9_signed_154 hD
  · rw [if_neg c] at hD
    refine ev_if_eq_f 153 dX9_signed_145 (by decide) c ?_
    refine ev_iload_n dX9_signed_148 1 rfl rfl ?_
    refine ev_ineg dX9_signed_149 ?_
    refine ev_goto (tgt := 154) dX9_signed_150 (by decide) ?_
    refine Ev.pick [] rfl ?_
    exact lk_X9_signed_154 hD
def D_X9_signed_131 (x0 : Nat) (x1 : Int) (x2 : Int) (x3 : Int) (σ : mS) : Option (Int × mS) :=
  if x3 ≤ 500 then
    D_X9_signed_144 x1 x3 σ
  else
    (tgO σ x0 8).bind fun _ =>
    (D_X9_wrong x0 2 x2 σ).bind fun r1 =>
    D_X9_signed_144 x1 x3 r1
set_option maxRecDepth 100000 in
set_option maxHeartbeats 4000000 in
theorem lk_X9_signed_131 {G : mG} {x0 : Nat} {x1 : Int} {x2 : Int} {x3 : Int} {σ : mS} {R : (Int × mS)} (hD : D_X9_signed_131 x0 x1 x2 x3 σ = some R) : Ev G M_X9_signed 131 [(0, vr x0), (1, vi x1), (2, vi x2), (3, vi x3)] [] σ (.inl (some (vi R.1))) R.2 := by
  unfold D_X9_signed_131 at hD
  refine ev_iload_n dX9_signed_131 3 rfl rfl ?_
  refine ev_sp dX9_signed_132 rfl ?_
  by_cases c : x3 ≤ 500
  · rw [if_pos c] at hD
    refine ev_icmp_le_t (tgt := 144) dX9_signed_135 (by decide) c ?_
    refine Ev.pick [1, 3] rfl ?_
    exact lk_X9_signed_144 hD
  · rw [if_neg c] at hD
    refine ev_icmp_le_f 144 dX9_signed_135 (by decide) c ?_
    refine ev_aload_n dX9_signed_138 0 rfl rfl ?_
    refine ev_iconst dX9_signed_139 (mi_c rfl) ?_
    refine ev_iload_n dX9_signed_140 2 rfl rfl ?_
    obtain ⟨_, g0, hD⟩ := bd hD
    obtain ⟨r1, g, hD⟩ := bd hD
    refine ew_callV0 (as := [vi 2, vi x2]) (a := x0) (rest := []) dX9_signed_141 v_X9_wrong w_1472 rfl (Nat.le_of_ble_eq_true rfl) rfl rfl g0 (Nat.le_of_ble_eq_true rfl) (Nat.le_of_ble_eq_true rfl) (ct_X9_wrong g) ?_
    refine Ev.pick [1, 3] rfl ?_
    exact lk_X9_signed_144 hD
def D_X9_signed_31 (x0 : Nat) (x1 : Int) (x2 : Int) (σ : mS) : Option (Int × mS) :=
  (tgO σ x0 8).bind fun _ =>
  (D_X9_isDigit x0 σ).bind fun r1 =>
  if r1.1 ≠ 0 then
    (D_X9_signed_56 mFU x0 0 r1.2).bind fun r2 =>
    D_X9_signed_131 x0 x1 x2 r2.1 r2.2
  else
    (tgO r1.2 x0 8).bind fun _ =>
    (D_X9_sign x0 r1.2).bind fun r3 =>
    (gI r3.2 x0 8 39).bind fun v4 =>
    (tgO r3.2 x0 8).bind fun _ =>
    (D_X9_wrong x0 1 v4 r3.2).bind fun r5 =>
    some (0, r5)
set_option maxRecDepth 100000 in
set_option maxHeartbeats 4000000 in
theorem lk_X9_signed_31 {G : mG} {x0 : Nat} {x1 : Int} {x2 : Int} {σ : mS} {R : (Int × mS)} (hD : D_X9_signed_31 x0 x1 x2 σ = some R) : Ev G M_X9_signed 31 [(0, vr x0), (1, vi x1), (2, vi x2)] [] σ (.inl (some (vi R.1))) R.2 := by
  unfold D_X9_signed_31 at hD
  refine ev_aload_n dX9_signed_31 0 rfl rfl ?_
  obtain ⟨_, g0, hD⟩ := bd hD
  obtain ⟨r1, g, hD⟩ := bd hD
  refine ew_callVv (as := []) (a := x0) (rest := []) dX9_signed_32 v_X9_isDigit w_1484 rfl (Nat.le_of_ble_eq_true rfl) rfl rfl g0 (Nat.le_of_ble_eq_true rfl) (Nat.le_of_ble_eq_true rfl) (ct_X9_isDigit g) ?_
  by_cases c : r1.1 ≠ 0
  · rw [if_pos c] at hD
    refine ev_if_ne_t (tgt := 54) dX9_signed_35 (by decide) c ?_
    refine ev_iconst dX9_signed_54 (mi_c rfl) ?_
    refine ev_istore_n dX9_signed_55 rfl (Nat.le_of_ble_eq_true rfl) rfl ?_
    obtain ⟨r2, g, hD⟩ := bd hD
    refine Ev.pick [1, 2, 3, 0] rfl ?_
    refine lk_X9_signed_56 mFU g ?_
    exact lk_X9_signed_131 hD
  · rw [if_neg c] at hD
    refine ev_if_ne_f 54 dX9_signed_35 (by decide) c ?_
    refine ev_aload_n dX9_signed_38 0 rfl rfl ?_
    obtain ⟨_, g0, hD⟩ := bd hD
    obtain ⟨r3, g, hD⟩ := bd hD
    refine ew_callVv (as := []) (a := x0) (rest := []) dX9_signed_39 v_X9_sign w_1458 rfl (Nat.le_of_ble_eq_true rfl) rfl rfl g0 (Nat.le_of_ble_eq_true rfl) (Nat.le_of_ble_eq_true rfl) (ct_X9_sign g) ?_
    refine ev_pop dX9_signed_42 rfl ?_
    refine ev_aload_n dX9_signed_43 0 rfl rfl ?_
    refine ev_iconst dX9_signed_44 (mi_c rfl) ?_
    refine ev_aload_n dX9_signed_45 0 rfl rfl ?_
    obtain ⟨v4, g, hD⟩ := bd hD
    refine ew_getI 8 39 dX9_signed_46 rfl (Nat.le_of_ble_eq_true rfl) w_1304 in_X9 rfl g ?_
    obtain ⟨_, g0, hD⟩ := bd hD
    obtain ⟨r5, g, hD⟩ := bd hD
    refine ew_callV0 (as := [vi 1, vi v4]) (a := x0) (rest := []) dX9_signed_49 v_X9_wrong w_1472 rfl (Nat.le_of_ble_eq_true rfl) rfl rfl g0 (Nat.le_of_ble_eq_true rfl) (Nat.le_of_ble_eq_true rfl) (ct_X9_wrong g) ?_
    refine ev_iconst dX9_signed_52 (mi_c rfl) ?_
    cases hD
    exact ev_ret (some (vi _)) dX9_signed_53 True.intro
def D_X9_signed (x0 : Nat) (σ : mS) : Option (Int × mS) :=
  (tgO σ x0 8).bind fun _ =>
  (D_X9_isSign x0 45 σ).bind fun r1 =>
  (tgO r1.2 x0 8).bind fun _ =>
  (D_X9_sign x0 r1.2).bind fun r2 =>
  (gI r2.2 x0 8 39).bind fun v3 =>
  if r1.1 = 0 then
    D_X9_signed_31 x0 r1.1 v3 r2.2
  else
    (gI r2.2 x0 8 39).bind fun v4 =>
    (pI r2.2 x0 8 39 (mw (v4 + 1))).bind fun s5 =>
    D_X9_signed_31 x0 r1.1 v3 s5
set_option maxRecDepth 100000 in
set_option maxHeartbeats 4000000 in
theorem lk_X9_signed {G : mG} {x0 : Nat} {σ : mS} {R : (Int × mS)} (hD : D_X9_signed x0 σ = some R) : Ev G M_X9_signed 0 [(0, vr x0)] [] σ (.inl (some (vi R.1))) R.2 := by
  unfold D_X9_signed at hD
  refine ev_aload_n dX9_signed_0 0 rfl rfl ?_
  refine ev_bp dX9_signed_1 rfl ?_
  obtain ⟨_, g0, hD⟩ := bd hD
  obtain ⟨r1, g, hD⟩ := bd hD
  refine ew_callVv (as := [vi 45]) (a := x0) (rest := []) dX9_signed_3 v_X9_isSign w_1490 rfl (Nat.le_of_ble_eq_true rfl) rfl rfl g0 (Nat.le_of_ble_eq_true rfl) (Nat.le_of_ble_eq_true rfl) (ct_X9_isSign g) ?_
  refine ev_istore_n dX9_signed_6 rfl (Nat.le_of_ble_eq_true rfl) rfl ?_
  refine ev_aload_n dX9_signed_7 1 rfl rfl ?_
  obtain ⟨_, g0, hD⟩ := bd hD
  obtain ⟨r2, g, hD⟩ := bd hD
  refine ew_callVv (as := []) (a := x0) (rest := []) dX9_signed_8 v_X9_sign w_1458 rfl (Nat.le_of_ble_eq_true rfl) rfl rfl g0 (Nat.le_of_ble_eq_true rfl) (Nat.le_of_ble_eq_true rfl) (ct_X9_sign g) ?_
  refine ev_pop dX9_signed_11 rfl ?_
  refine ev_aload_n dX9_signed_12 1 rfl rfl ?_
  obtain ⟨v3, g, hD⟩ := bd hD
  refine ew_getI 8 39 dX9_signed_13 rfl (Nat.le_of_ble_eq_true rfl) w_1304 in_X9 rfl g ?_
  refine ev_istore_n dX9_signed_16 rfl (Nat.le_of_ble_eq_true rfl) rfl ?_
  refine ev_iload_n dX9_signed_17 1 rfl rfl ?_
  by_cases c : r1.1 = 0
  · rw [if_pos c] at hD
    refine ev_if_eq_t (tgt := 31) dX9_signed_18 (by decide) c ?_
    refine Ev.pick [2, 1, 0] rfl ?_
    exact lk_X9_signed_31 hD
  · rw [if_neg c] at hD
    refine ev_if_eq_f 31 dX9_signed_18 (by decide) c ?_
    refine ev_aload_n dX9_signed_21 2 rfl rfl ?_
    refine ev_dup dX9_signed_22 rfl ?_
    obtain ⟨v4, g, hD⟩ := bd hD
    refine ew_getI 8 39 dX9_signed_23 rfl (Nat.le_of_ble_eq_true rfl) w_1304 in_X9 rfl g ?_
    refine ev_iconst dX9_signed_26 (mi_c rfl) ?_
    refine ev_iadd dX9_signed_27 ?_
    obtain ⟨s5, g, hD⟩ := bd hD
    refine ew_putI 8 39 dX9_signed_28 rfl (Nat.le_of_ble_eq_true rfl) w_1304 in_X9 tyX9_ok nmX9 (Or.inl rfl) rfl g ?_
    refine Ev.pick [2, 1, 0] rfl ?_
    exact lk_X9_signed_31 hD
theorem ct_X9_signed {G : mG} {x0 : Nat} {σ : mS} {R : (Int × mS)} (hD : D_X9_signed x0 σ = some R) : Ct G M_X9_signed [vr x0] σ (.inl (some (vi R.1))) R.2 := ct_of rfl (by decide +kernel) rfl (Nat.le_of_ble_eq_true rfl) rfl (lk_X9_signed hD)
def D_X9_once_31 (x0 : Nat) (x2 : Int) (σ : mS) : Option (Int × mS) :=
  (gI σ x0 8 49).bind fun v1 =>
  (pI σ x0 8 49 (mor v1 (mshl 1 x2))).bind fun s2 =>
  (bO 1).bind fun v3 =>
  some (v3, s2)
set_option maxRecDepth 100000 in
set_option maxHeartbeats 4000000 in
theorem lk_X9_once_31 {G : mG} {x0 : Nat} {x2 : Int} {σ : mS} {R : (Int × mS)} (hD : D_X9_once_31 x0 x2 σ = some R) : Ev G M_X9_once 31 [(0, vr x0), (2, vi x2)] [] σ (.inl (some (vi R.1))) R.2 := by
  unfold D_X9_once_31 at hD
  refine ev_aload_n dX9_once_31 0 rfl rfl ?_
  refine ev_dup dX9_once_32 rfl ?_
  obtain ⟨v1, g, hD⟩ := bd hD
  refine ew_getI 8 49 dX9_once_33 rfl (Nat.le_of_ble_eq_true rfl) w_1314 in_X9 rfl g ?_
  refine ev_iconst dX9_once_36 (mi_c rfl) ?_
  refine ev_iload_n dX9_once_37 1 rfl rfl ?_
  refine ev_ishl dX9_once_38 ?_
  refine ev_ior dX9_once_39 ?_
  obtain ⟨s2, g, hD⟩ := bd hD
  refine ew_putI 8 49 dX9_once_40 rfl (Nat.le_of_ble_eq_true rfl) w_1314 in_X9 tyX9_ok nmX9 (Or.inl rfl) rfl g ?_
  refine ev_iconst dX9_once_43 (mi_c rfl) ?_
  obtain ⟨v3, gb, hD⟩ := bd hD
  cases hD
  exact ew_retb dX9_once_44 rfl gb
def D_X9_once (x0 : Nat) (x1 : Nat) (x2 : Int) (σ : mS) : Option (Int × mS) :=
  (tgO σ x0 8).bind fun _ =>
  (D_X9_passes x0 x1 σ).bind fun r1 =>
  if r1.1 ≠ 0 then
    (gI r1.2 x0 8 49).bind fun v2 =>
    if (mand (mshr v2 x2) 1) ≠ 1 then
      D_X9_once_31 x0 x2 r1.2
    else
      (gI r1.2 x0 8 40).bind fun v3 =>
      (tgO r1.2 x0 8).bind fun _ =>
      (D_X9_wrong x0 3 v3 r1.2).bind fun r4 =>
      D_X9_once_31 x0 x2 r4
  else
    (bO 0).bind fun v5 =>
    some (v5, r1.2)
set_option maxRecDepth 100000 in
set_option maxHeartbeats 4000000 in
theorem lk_X9_once {G : mG} {x0 : Nat} {x1 : Nat} {x2 : Int} {σ : mS} {R : (Int × mS)} (hD : D_X9_once x0 x1 x2 σ = some R) : Ev G M_X9_once 0 [(0, vr x0), (1, vr x1), (2, vi x2)] [] σ (.inl (some (vi R.1))) R.2 := by
  unfold D_X9_once at hD
  refine ev_aload_n dX9_once_0 0 rfl rfl ?_
  refine ev_aload_n dX9_once_1 1 rfl rfl ?_
  obtain ⟨_, g0, hD⟩ := bd hD
  obtain ⟨r1, g, hD⟩ := bd hD
  refine ew_callVv (as := [vr x1]) (a := x0) (rest := []) dX9_once_2 v_X9_passes w_1450 rfl (Nat.le_of_ble_eq_true rfl) rfl rfl g0 (Nat.le_of_ble_eq_true rfl) (Nat.le_of_ble_eq_true rfl) (ct_X9_passes g) ?_
  by_cases c : r1.1 ≠ 0
  · rw [if_pos c] at hD
    refine ev_if_ne_t (tgt := 10) dX9_once_5 (by decide) c ?_
    refine ev_aload_n dX9_once_10 0 rfl rfl ?_
    obtain ⟨v2, g, hD⟩ := bd hD
    refine ew_getI 8 49 dX9_once_11 rfl (Nat.le_of_ble_eq_true rfl) w_1314 in_X9 rfl g ?_
    refine ev_iload_n dX9_once_14 2 rfl rfl ?_
    refine ev_ishr dX9_once_15 ?_
    refine ev_iconst dX9_once_16 (mi_c rfl) ?_
    refine ev_iand dX9_once_17 ?_
    refine ev_iconst dX9_once_18 (mi_c rfl) ?_
    by_cases c : (mand (mshr v2 x2) 1) ≠ 1
    · rw [if_pos c] at hD
      refine ev_icmp_ne_t (tgt := 31) dX9_once_19 (by decide) c ?_
      refine Ev.pick [0, 2] rfl ?_
      exact lk_X9_once_31 hD
    · rw [if_neg c] at hD
      refine ev_icmp_ne_f 31 dX9_once_19 (by decide) c ?_
      refine ev_aload_n dX9_once_22 0 rfl rfl ?_
      refine ev_iconst dX9_once_23 (mi_c rfl) ?_
      refine ev_aload_n dX9_once_24 0 rfl rfl ?_
      obtain ⟨v3, g, hD⟩ := bd hD
      refine ew_getI 8 40 dX9_once_25 rfl (Nat.le_of_ble_eq_true rfl) w_1305 in_X9 rfl g ?_
      obtain ⟨_, g0, hD⟩ := bd hD
      obtain ⟨r4, g, hD⟩ := bd hD
      refine ew_callV0 (as := [vi 3, vi v3]) (a := x0) (rest := []) dX9_once_28 v_X9_wrong w_1472 rfl (Nat.le_of_ble_eq_true rfl) rfl rfl g0 (Nat.le_of_ble_eq_true rfl) (Nat.le_of_ble_eq_true rfl) (ct_X9_wrong g) ?_
      refine Ev.pick [0, 2] rfl ?_
      exact lk_X9_once_31 hD
  · rw [if_neg c] at hD
    refine ev_if_ne_f 10 dX9_once_5 (by decide) c ?_
    refine ev_iconst dX9_once_8 (mi_c rfl) ?_
    obtain ⟨v5, gb, hD⟩ := bd hD
    cases hD
    exact ew_retb dX9_once_9 rfl gb
theorem ct_X9_once {G : mG} {x0 : Nat} {x1 : Nat} {x2 : Int} {σ : mS} {R : (Int × mS)} (hD : D_X9_once x0 x1 x2 σ = some R) : Ct G M_X9_once [vr x0, vr x1, vi x2] σ (.inl (some (vi R.1))) R.2 := ct_of rfl (by decide +kernel) rfl (Nat.le_of_ble_eq_true rfl) rfl (lk_X9_once hD)
def D_X9_oneLine_397 (x0 : Nat) (σ : mS) : Option mS :=
  (tgO σ x0 8).bind fun _ =>
  (D_X9_must x0 59 σ).bind fun r1 =>
  some r1
set_option maxRecDepth 100000 in
set_option maxHeartbeats 4000000 in
theorem lk_X9_oneLine_397 {G : mG} {x0 : Nat} {σ : mS} {R : mS} (hD : D_X9_oneLine_397 x0 σ = some R) : Ev G M_X9_oneLine 397 [(0, vr x0)] [] σ (.inl none) R := by
  unfold D_X9_oneLine_397 at hD
  refine ev_aload_n dX9_oneLine_397 0 rfl rfl ?_
  refine ev_bp dX9_oneLine_398 rfl ?_
  obtain ⟨_, g0, hD⟩ := bd hD
  obtain ⟨r1, g, hD⟩ := bd hD
  refine ew_callV0 (as := [vi 59]) (a := x0) (rest := []) dX9_oneLine_400 v_X9_must w_1494 rfl (Nat.le_of_ble_eq_true rfl) rfl rfl g0 (Nat.le_of_ble_eq_true rfl) (Nat.le_of_ble_eq_true rfl) (ct_X9_must g) ?_
  cases hD
  exact ev_ret none dX9_oneLine_403 True.intro
def D_X9_oneLine_296 (x0 : Nat) (y0 : Int) (y1 : Int) (y2 : Int) (y3 : Int) (y4 : Nat) (σ : mS) : Option mS :=
  (tgO σ y4 8).bind fun _ =>
  (D_X9_lays_ y4 y3 y2 y1 y0 ((-1)) σ).bind fun r1 =>
  D_X9_oneLine_397 x0 r1
set_option maxRecDepth 100000 in
set_option maxHeartbeats 4000000 in
theorem lk_X9_oneLine_296 {G : mG} {x0 : Nat} {y0 : Int} {y1 : Int} {y2 : Int} {y3 : Int} {y4 : Nat} {σ : mS} {R : mS} (hD : D_X9_oneLine_296 x0 y0 y1 y2 y3 y4 σ = some R) : Ev G M_X9_oneLine 296 [(0, vr x0)] [vi y0, vi y1, vi y2, vi y3, vr y4] σ (.inl none) R := by
  unfold D_X9_oneLine_296 at hD
  refine ev_iconst dX9_oneLine_296 (mi_c rfl) ?_
  obtain ⟨_, g0, hD⟩ := bd hD
  obtain ⟨r1, g, hD⟩ := bd hD
  refine ew_callV0 (as := [vi y3, vi y2, vi y1, vi y0, vi ((-1))]) (a := y4) (rest := []) dX9_oneLine_297 v_X9_lays_ w_1553 rfl (Nat.le_of_ble_eq_true rfl) rfl rfl g0 (Nat.le_of_ble_eq_true rfl) (Nat.le_of_ble_eq_true rfl) (ct_X9_lays_ g) ?_
  refine ev_goto (tgt := 397) dX9_oneLine_300 (by decide) ?_
  exact lk_X9_oneLine_397 hD
def D_X9_oneLine_39 (x0 : Nat) (σ : mS) : Option mS :=
  (gI σ x0 8 49).bind fun v1 =>
  if v1 ≠ 0 then
    (tgO σ x0 8).bind fun _ =>
    (D_X9_once x0 (2 + 6) 0 σ).bind fun r2 =>
    if r2.1 = 0 then
      (tgO r2.2 x0 8).bind fun _ =>
      (D_X9_passes x0 (2 + 7) r2.2).bind fun r3 =>
      if r3.1 = 0 then
        (tgO r3.2 x0 8).bind fun _ =>
        (D_X9_passes x0 (2 + 8) r3.2).bind fun r4 =>
        if r4.1 = 0 then
          (tgO r4.2 x0 8).bind fun _ =>
          (D_X9_isRuleWord x0 (2 + 0) r4.2).bind fun r5 =>
          if r5.1 = 0 then
            (tgO r5.2 x0 8).bind fun _ =>
            (D_X9_isRuleWord x0 (2 + 1) r5.2).bind fun r6 =>
            if r6.1 = 0 then
              (tgO r6.2 x0 8).bind fun _ =>
              (D_X9_isRuleWord x0 (2 + 2) r6.2).bind fun r7 =>
              if r7.1 = 0 then
                (tgO r7.2 x0 8).bind fun _ =>
                (D_X9_isRuleWord x0 (2 + 3) r7.2).bind fun r8 =>
                if r8.1 = 0 then
                  (tgO r8.2 x0 8).bind fun _ =>
                  (D_X9_passes x0 (2 + 9) r8.2).bind fun r9 =>
                  if r9.1 = 0 then
                    (tgO r9.2 x0 8).bind fun _ =>
                    (D_X9_isRuleWord x0 (2 + 4) r9.2).bind fun r10 =>
                    if r10.1 = 0 then
                      (tgO r10.2 x0 8).bind fun _ =>
                      (D_X9_isRuleWord x0 (2 + 5) r10.2).bind fun r11 =>
                      if r11.1 = 0 then
                        (tgO r11.2 x0 8).bind fun _ =>
                        (D_X9_once x0 (2 + 10) 1 r11.2).bind fun r12 =>
                        if r12.1 = 0 then
                          (tgO r12.2 x0 8).bind fun _ =>
                          (D_X9_once x0 (2 + 11) 2 r12.2).bind fun r13 =>
                          if r13.1 = 0 then
                            (gI r13.2 x0 8 39).bind fun v14 =>
                            (tgO r13.2 x0 8).bind fun _ =>
                            (D_X9_wrong x0 1 v14 r13.2).bind fun r15 =>
                            D_X9_oneLine_397 x0 r15
                          else
                            (gR r13.2 x0 8 3).bind fun v16 =>
                            (tgO r13.2 x0 8).bind fun _ =>
                            (D_X9_signed x0 r13.2).bind fun r17 =>
                            (sI r17.2 v16 1 r17.1).bind fun s18 =>
                            D_X9_oneLine_397 x0 s18
                        else
                          (gR r12.2 x0 8 3).bind fun v19 =>
                          (tgO r12.2 x0 8).bind fun _ =>
                          (D_X9_number x0 1 3 r12.2).bind fun r20 =>
                          (sI r20.2 v19 0 r20.1).bind fun s21 =>
                          D_X9_oneLine_397 x0 s21
                      else
                        (tgO r11.2 x0 8).bind fun _ =>
                        (D_X9_known x0 1 r11.2).bind fun r22 =>
                        (tgO r22.2 x0 8).bind fun _ =>
                        (D_X9_number x0 0 999 r22.2).bind fun r23 =>
                        (tgO r23.2 x0 8).bind fun _ =>
                        (D_X9_lays_ x0 5 r22.1 ((-1)) r23.1 ((-1)) r23.2).bind fun r24 =>
                        D_X9_oneLine_397 x0 r24
                    else
                      (tgO r10.2 x0 8).bind fun _ =>
                      (D_X9_known x0 1 r10.2).bind fun r25 =>
                      (tgO r25.2 x0 8).bind fun _ =>
                      (D_X9_known x0 1 r25.2).bind fun r26 =>
                      (tgO r26.2 x0 8).bind fun _ =>
                      (D_X9_isDigit x0 r26.2).bind fun r27 =>
                      if r27.1 = 0 then
                        D_X9_oneLine_296 x0 0 r26.1 r25.1 4 x0 r27.2
                      else
                        (tgO r27.2 x0 8).bind fun _ =>
                        (D_X9_number x0 0 999 r27.2).bind fun r28 =>
                        D_X9_oneLine_296 x0 r28.1 r26.1 r25.1 4 x0 r28.2
                  else
                    (tgO r9.2 x0 8).bind fun _ =>
                    (D_X9_phaseLine x0 r9.2).bind fun r29 =>
                    D_X9_oneLine_397 x0 r29
                else
                  (tgO r8.2 x0 8).bind fun _ =>
                  (D_X9_known x0 0 r8.2).bind fun r30 =>
                  (tgO r30.2 x0 8).bind fun _ =>
                  (D_X9_number x0 0 999 r30.2).bind fun r31 =>
                  (tgO r31.2 x0 8).bind fun _ =>
                  (D_X9_lays_ x0 3 r30.1 ((-1)) r31.1 ((-1)) r31.2).bind fun r32 =>
                  D_X9_oneLine_397 x0 r32
              else
                (tgO r7.2 x0 8).bind fun _ =>
                (D_X9_known x0 0 r7.2).bind fun r33 =>
                (tgO r33.2 x0 8).bind fun _ =>
                (D_X9_number x0 0 999 r33.2).bind fun r34 =>
                (tgO r34.2 x0 8).bind fun _ =>
                (D_X9_lays_ x0 2 r33.1 ((-1)) r34.1 ((-1)) r34.2).bind fun r35 =>
                D_X9_oneLine_397 x0 r35
            else
              (tgO r6.2 x0 8).bind fun _ =>
              (D_X9_known x0 0 r6.2).bind fun r36 =>
              (tgO r36.2 x0 8).bind fun _ =>
              (D_X9_known x0 0 r36.2).bind fun r37 =>
              (tgO r37.2 x0 8).bind fun _ =>
              (D_X9_lays_ x0 1 r36.1 r37.1 0 ((-1)) r37.2).bind fun r38 =>
              D_X9_oneLine_397 x0 r38
          else
            (tgO r5.2 x0 8).bind fun _ =>
            (D_X9_beforeLine x0 r5.2).bind fun r39 =>
            D_X9_oneLine_397 x0 r39
        else
          (tgO r4.2 x0 8).bind fun _ =>
          (D_X9_ringed x0 r4.2).bind fun r40 =>
          D_X9_oneLine_397 x0 r40
      else
        (tgO r3.2 x0 8).bind fun _ =>
        (D_X9_dated x0 r3.2).bind fun r41 =>
        D_X9_oneLine_397 x0 r41
    else
      (gI r2.2 x0 8 40).bind fun v42 =>
      (tgO r2.2 x0 8).bind fun _ =>
      (D_X9_wrong x0 3 v42 r2.2).bind fun r43 =>
      D_X9_oneLine_397 x0 r43
  else
    (pI σ x0 8 49 1).bind fun s44 =>
    (tgO s44 x0 8).bind fun _ =>
    (D_X9_curve x0 s44).bind fun r45 =>
    D_X9_oneLine_397 x0 r45
set_option maxRecDepth 100000 in
set_option maxHeartbeats 4000000 in
theorem lk_X9_oneLine_39 {G : mG} {x0 : Nat} {σ : mS} {R : mS} (hD : D_X9_oneLine_39 x0 σ = some R) : Ev G M_X9_oneLine 39 [(0, vr x0)] [] σ (.inl none) R := by
  unfold D_X9_oneLine_39 at hD
  refine ev_aload_n dX9_oneLine_39 0 rfl rfl ?_
  obtain ⟨v1, g, hD⟩ := bd hD
  refine ew_getI 8 49 dX9_oneLine_40 rfl (Nat.le_of_ble_eq_true rfl) w_1314 in_X9 rfl g ?_
  by_cases c : v1 ≠ 0
  · rw [if_pos c] at hD
    refine ev_if_ne_t (tgt := 58) dX9_oneLine_43 (by decide) c ?_
    refine ev_aload_n dX9_oneLine_58 0 rfl rfl ?_
    refine ew_ldsw 6 dX9_oneLine_59 rfl lds_X9_311 ?_
    refine ev_iconst dX9_oneLine_62 (mi_c rfl) ?_
    obtain ⟨_, g0, hD⟩ := bd hD
    obtain ⟨r2, g, hD⟩ := bd hD
    refine ew_callVv (as := [vr (2 + 6), vi 0]) (a := x0) (rest := []) dX9_oneLine_63 v_X9_once w_1498 rfl (Nat.le_of_ble_eq_true rfl) rfl rfl g0 (Nat.le_of_ble_eq_true rfl) (Nat.le_of_ble_eq_true rfl) (ct_X9_once g) ?_
    by_cases c : r2.1 = 0
    · rw [if_pos c] at hD
      refine ev_if_eq_t (tgt := 81) dX9_oneLine_66 (by decide) c ?_
      refine ev_aload_n dX9_oneLine_81 0 rfl rfl ?_
      refine ew_ldsw 7 dX9_oneLine_82 rfl lds_X9_319 ?_
      obtain ⟨_, g0, hD⟩ := bd hD
      obtain ⟨r3, g, hD⟩ := bd hD
      refine ew_callVv (as := [vr (2 + 7)]) (a := x0) (rest := []) dX9_oneLine_85 v_X9_passes w_1450 rfl (Nat.le_of_ble_eq_true rfl) rfl rfl g0 (Nat.le_of_ble_eq_true rfl) (Nat.le_of_ble_eq_true rfl) (ct_X9_passes g) ?_
      by_cases c : r3.1 = 0
      · rw [if_pos c] at hD
        refine ev_if_eq_t (tgt := 98) dX9_oneLine_88 (by decide) c ?_
        refine ev_aload_n dX9_oneLine_98 0 rfl rfl ?_
        refine ew_ldsw 8 dX9_oneLine_99 rfl lds_X9_324 ?_
        obtain ⟨_, g0, hD⟩ := bd hD
        obtain ⟨r4, g, hD⟩ := bd hD
        refine ew_callVv (as := [vr (2 + 8)]) (a := x0) (rest := []) dX9_oneLine_102 v_X9_passes w_1450 rfl (Nat.le_of_ble_eq_true rfl) rfl rfl g0 (Nat.le_of_ble_eq_true rfl) (Nat.le_of_ble_eq_true rfl) (ct_X9_passes g) ?_
        by_cases c : r4.1 = 0
        · rw [if_pos c] at hD
          refine ev_if_eq_t (tgt := 115) dX9_oneLine_105 (by decide) c ?_
          refine ev_aload_n dX9_oneLine_115 0 rfl rfl ?_
          refine ew_ldsw 0 dX9_oneLine_116 rfl lds_X9_329 ?_
          obtain ⟨_, g0, hD⟩ := bd hD
          obtain ⟨r5, g, hD⟩ := bd hD
          refine ew_callVv (as := [vr (2 + 0)]) (a := x0) (rest := []) dX9_oneLine_119 v_X9_isRuleWord w_1533 rfl (Nat.le_of_ble_eq_true rfl) rfl rfl g0 (Nat.le_of_ble_eq_true rfl) (Nat.le_of_ble_eq_true rfl) (ct_X9_isRuleWord g) ?_
          by_cases c : r5.1 = 0
          · rw [if_pos c] at hD
            refine ev_if_eq_t (tgt := 132) dX9_oneLine_122 (by decide) c ?_
            refine ev_aload_n dX9_oneLine_132 0 rfl rfl ?_
            refine ew_ldsw 1 dX9_oneLine_133 rfl lds_X9_336 ?_
            obtain ⟨_, g0, hD⟩ := bd hD
            obtain ⟨r6, g, hD⟩ := bd hD
            refine ew_callVv (as := [vr (2 + 1)]) (a := x0) (rest := []) dX9_oneLine_136 v_X9_isRuleWord w_1533 rfl (Nat.le_of_ble_eq_true rfl) rfl rfl g0 (Nat.le_of_ble_eq_true rfl) (Nat.le_of_ble_eq_true rfl) (ct_X9_isRuleWord g) ?_
            by_cases c : r6.1 = 0
            · rw [if_pos c] at hD
              refine ev_if_eq_t (tgt := 164) dX9_oneLine_139 (by decide) c ?_
              refine ev_aload_n dX9_oneLine_164 0 rfl rfl ?_
              refine ew_ldsw 2 dX9_oneLine_165 rfl lds_X9_338 ?_
              obtain ⟨_, g0, hD⟩ := bd hD
              obtain ⟨r7, g, hD⟩ := bd hD
              refine ew_callVv (as := [vr (2 + 2)]) (a := x0) (rest := []) dX9_oneLine_168 v_X9_isRuleWord w_1533 rfl (Nat.le_of_ble_eq_true rfl) rfl rfl g0 (Nat.le_of_ble_eq_true rfl) (Nat.le_of_ble_eq_true rfl) (ct_X9_isRuleWord g) ?_
              by_cases c : r7.1 = 0
              · rw [if_pos c] at hD
                refine ev_if_eq_t (tgt := 199) dX9_oneLine_171 (by decide) c ?_
                refine ev_aload_n dX9_oneLine_199 0 rfl rfl ?_
                refine ew_ldsw 3 dX9_oneLine_200 rfl lds_X9_340 ?_
                obtain ⟨_, g0, hD⟩ := bd hD
                obtain ⟨r8, g, hD⟩ := bd hD
                refine ew_callVv (as := [vr (2 + 3)]) (a := x0) (rest := []) dX9_oneLine_203 v_X9_isRuleWord w_1533 rfl (Nat.le_of_ble_eq_true rfl) rfl rfl g0 (Nat.le_of_ble_eq_true rfl) (Nat.le_of_ble_eq_true rfl) (ct_X9_isRuleWord g) ?_
                by_cases c : r8.1 = 0
                · rw [if_pos c] at hD
                  refine ev_if_eq_t (tgt := 234) dX9_oneLine_206 (by decide) c ?_
                  refine ev_aload_n dX9_oneLine_234 0 rfl rfl ?_
                  refine ew_ldsw 9 dX9_oneLine_235 rfl lds_X9_342 ?_
                  obtain ⟨_, g0, hD⟩ := bd hD
                  obtain ⟨r9, g, hD⟩ := bd hD
                  refine ew_callVv (as := [vr (2 + 9)]) (a := x0) (rest := []) dX9_oneLine_238 v_X9_passes w_1450 rfl (Nat.le_of_ble_eq_true rfl) rfl rfl g0 (Nat.le_of_ble_eq_true rfl) (Nat.le_of_ble_eq_true rfl) (ct_X9_passes g) ?_
                  by_cases c : r9.1 = 0
                  · rw [if_pos c] at hD
                    refine ev_if_eq_t (tgt := 251) dX9_oneLine_241 (by decide) c ?_
                    refine ev_aload_n dX9_oneLine_251 0 rfl rfl ?_
                    refine ew_ldsw 4 dX9_oneLine_252 rfl lds_X9_347 ?_
                    obtain ⟨_, g0, hD⟩ := bd hD
                    obtain ⟨r10, g, hD⟩ := bd hD
                    refine ew_callVv (as := [vr (2 + 4)]) (a := x0) (rest := []) dX9_oneLine_255 v_X9_isRuleWord w_1533 rfl (Nat.le_of_ble_eq_true rfl) rfl rfl g0 (Nat.le_of_ble_eq_true rfl) (Nat.le_of_ble_eq_true rfl) (ct_X9_isRuleWord g) ?_
                    by_cases c : r10.1 = 0
                    · rw [if_pos c] at hD
                      refine ev_if_eq_t (tgt := 303) dX9_oneLine_258 (by decide) c ?_
                      refine ev_aload_n dX9_oneLine_303 0 rfl rfl ?_
                      refine ew_ldsw 5 dX9_oneLine_304 rfl lds_X9_349 ?_
                      obtain ⟨_, g0, hD⟩ := bd hD
                      obtain ⟨r11, g, hD⟩ := bd hD
                      refine ew_callVv (as := [vr (2 + 5)]) (a := x0) (rest := []) dX9_oneLine_307 v_X9_isRuleWord w_1533 rfl (Nat.le_of_ble_eq_true rfl) rfl rfl g0 (Nat.le_of_ble_eq_true rfl) (Nat.le_of_ble_eq_true rfl) (ct_X9_isRuleWord g) ?_
                      by_cases c : r11.1 = 0
                      · rw [if_pos c] at hD
                        refine ev_if_eq_t (tgt := 338) dX9_oneLine_310 (by decide) c ?_
                        refine ev_aload_n dX9_oneLine_338 0 rfl rfl ?_
                        refine ew_ldsw 10 dX9_oneLine_339 rfl lds_X9_351 ?_
                        refine ev_iconst dX9_oneLine_342 (mi_c rfl) ?_
                        obtain ⟨_, g0, hD⟩ := bd hD
                        obtain ⟨r12, g, hD⟩ := bd hD
                        refine ew_callVv (as := [vr (2 + 10), vi 1]) (a := x0) (rest := []) dX9_oneLine_343 v_X9_once w_1498 rfl (Nat.le_of_ble_eq_true rfl) rfl rfl g0 (Nat.le_of_ble_eq_true rfl) (Nat.le_of_ble_eq_true rfl) (ct_X9_once g) ?_
                        by_cases c : r12.1 = 0
                        · rw [if_pos c] at hD
                          refine ev_if_eq_t (tgt := 364) dX9_oneLine_346 (by decide) c ?_
                          refine ev_aload_n dX9_oneLine_364 0 rfl rfl ?_
                          refine ew_ldsw 11 dX9_oneLine_365 rfl lds_X9_353 ?_
                          refine ev_iconst dX9_oneLine_368 (mi_c rfl) ?_
                          obtain ⟨_, g0, hD⟩ := bd hD
                          obtain ⟨r13, g, hD⟩ := bd hD
                          refine ew_callVv (as := [vr (2 + 11), vi 2]) (a := x0) (rest := []) dX9_oneLine_369 v_X9_once w_1498 rfl (Nat.le_of_ble_eq_true rfl) rfl rfl g0 (Nat.le_of_ble_eq_true rfl) (Nat.le_of_ble_eq_true rfl) (ct_X9_once g) ?_
                          by_cases c : r13.1 = 0
                          · rw [if_pos c] at hD
                            refine ev_if_eq_t (tgt := 388) dX9_oneLine_372 (by decide) c ?_
                            refine ev_aload_n dX9_oneLine_388 0 rfl rfl ?_
                            refine ev_iconst dX9_oneLine_389 (mi_c rfl) ?_
                            refine ev_aload_n dX9_oneLine_390 0 rfl rfl ?_
                            obtain ⟨v14, g, hD⟩ := bd hD
                            refine ew_getI 8 39 dX9_oneLine_391 rfl (Nat.le_of_ble_eq_true rfl) w_1304 in_X9 rfl g ?_
                            obtain ⟨_, g0, hD⟩ := bd hD
                            obtain ⟨r15, g, hD⟩ := bd hD
                            refine ew_callV0 (as := [vi 1, vi v14]) (a := x0) (rest := []) dX9_oneLine_394 v_X9_wrong w_1472 rfl (Nat.le_of_ble_eq_true rfl) rfl rfl g0 (Nat.le_of_ble_eq_true rfl) (Nat.le_of_ble_eq_true rfl) (ct_X9_wrong g) ?_
                            exact lk_X9_oneLine_397 hD
                          · rw [if_neg c] at hD
                            refine ev_if_eq_f 388 dX9_oneLine_372 (by decide) c ?_
                            refine ev_aload_n dX9_oneLine_375 0 rfl rfl ?_
                            obtain ⟨v16, g, hD⟩ := bd hD
                            refine ew_getR 8 3 dX9_oneLine_376 rfl (Nat.le_of_ble_eq_true rfl) w_1268 in_X9 rfl g ?_
                            refine ev_iconst dX9_oneLine_379 (mi_c rfl) ?_
                            refine ev_aload_n dX9_oneLine_380 0 rfl rfl ?_
                            obtain ⟨_, g0, hD⟩ := bd hD
                            obtain ⟨r17, g, hD⟩ := bd hD
                            refine ew_callVv (as := []) (a := x0) (rest := [vi 1, vr v16]) dX9_oneLine_381 v_X9_signed w_1569 rfl (Nat.le_of_ble_eq_true rfl) rfl rfl g0 (Nat.le_of_ble_eq_true rfl) (Nat.le_of_ble_eq_true rfl) (ct_X9_signed g) ?_
                            obtain ⟨s18, g, hD⟩ := bd hD
                            refine ew_iast dX9_oneLine_384 g ?_
                            refine ev_goto (tgt := 397) dX9_oneLine_385 (by decide) ?_
                            exact lk_X9_oneLine_397 hD
                        · rw [if_neg c] at hD
                          refine ev_if_eq_f 364 dX9_oneLine_346 (by decide) c ?_
                          refine ev_aload_n dX9_oneLine_349 0 rfl rfl ?_
                          obtain ⟨v19, g, hD⟩ := bd hD
                          refine ew_getR 8 3 dX9_oneLine_350 rfl (Nat.le_of_ble_eq_true rfl) w_1268 in_X9 rfl g ?_
                          refine ev_iconst dX9_oneLine_353 (mi_c rfl) ?_
                          refine ev_aload_n dX9_oneLine_354 0 rfl rfl ?_
                          refine ev_iconst dX9_oneLine_355 (mi_c rfl) ?_
                          refine ev_iconst dX9_oneLine_356 (mi_c rfl) ?_
                          obtain ⟨_, g0, hD⟩ := bd hD
                          obtain ⟨r20, g, hD⟩ := bd hD
                          refine ew_callVv (as := [vi 1, vi 3]) (a := x0) (rest := [vi 0, vr v19]) dX9_oneLine_357 v_X9_number w_1480 rfl (Nat.le_of_ble_eq_true rfl) rfl rfl g0 (Nat.le_of_ble_eq_true rfl) (Nat.le_of_ble_eq_true rfl) (ct_X9_number g) ?_
                          obtain ⟨s21, g, hD⟩ := bd hD
                          refine ew_iast dX9_oneLine_360 g ?_
                          refine ev_goto (tgt := 397) dX9_oneLine_361 (by decide) ?_
                          exact lk_X9_oneLine_397 hD
                      · rw [if_neg c] at hD
                        refine ev_if_eq_f 338 dX9_oneLine_310 (by decide) c ?_
                        refine ev_aload_n dX9_oneLine_313 0 rfl rfl ?_
                        refine ev_iconst dX9_oneLine_314 (mi_c rfl) ?_
                        obtain ⟨_, g0, hD⟩ := bd hD
                        obtain ⟨r22, g, hD⟩ := bd hD
                        refine ew_callVv (as := [vi 1]) (a := x0) (rest := []) dX9_oneLine_315 v_X9_known w_1541 rfl (Nat.le_of_ble_eq_true rfl) rfl rfl g0 (Nat.le_of_ble_eq_true rfl) (Nat.le_of_ble_eq_true rfl) (ct_X9_known g) ?_
                        refine ev_istore_n dX9_oneLine_318 rfl (Nat.le_of_ble_eq_true rfl) rfl ?_
                        refine ev_aload_n dX9_oneLine_319 1 rfl rfl ?_
                        refine ev_iconst dX9_oneLine_320 (mi_c rfl) ?_
                        refine ev_iload_n dX9_oneLine_321 0 rfl rfl ?_
                        refine ev_iconst dX9_oneLine_322 (mi_c rfl) ?_
                        refine ev_aload_n dX9_oneLine_323 1 rfl rfl ?_
                        refine ev_iconst dX9_oneLine_324 (mi_c rfl) ?_
                        refine ev_sp dX9_oneLine_325 rfl ?_
                        obtain ⟨_, g0, hD⟩ := bd hD
                        obtain ⟨r23, g, hD⟩ := bd hD
                        refine ew_callVv (as := [vi 0, vi 999]) (a := x0) (rest := [vi ((-1)), vi r22.1, vi 5, vr x0]) dX9_oneLine_328 v_X9_number w_1480 rfl (Nat.le_of_ble_eq_true rfl) rfl rfl g0 (Nat.le_of_ble_eq_true rfl) (Nat.le_of_ble_eq_true rfl) (ct_X9_number g) ?_
                        refine ev_iconst dX9_oneLine_331 (mi_c rfl) ?_
                        obtain ⟨_, g0, hD⟩ := bd hD
                        obtain ⟨r24, g, hD⟩ := bd hD
                        refine ew_callV0 (as := [vi 5, vi r22.1, vi ((-1)), vi r23.1, vi ((-1))]) (a := x0) (rest := []) dX9_oneLine_332 v_X9_lays_ w_1553 rfl (Nat.le_of_ble_eq_true rfl) rfl rfl g0 (Nat.le_of_ble_eq_true rfl) (Nat.le_of_ble_eq_true rfl) (ct_X9_lays_ g) ?_
                        refine ev_goto (tgt := 397) dX9_oneLine_335 (by decide) ?_
                        refine Ev.pick [1] rfl ?_
                        exact lk_X9_oneLine_397 hD
                    · rw [if_neg c] at hD
                      refine ev_if_eq_f 303 dX9_oneLine_258 (by decide) c ?_
                      refine ev_aload_n dX9_oneLine_261 0 rfl rfl ?_
                      refine ev_iconst dX9_oneLine_262 (mi_c rfl) ?_
                      obtain ⟨_, g0, hD⟩ := bd hD
                      obtain ⟨r25, g, hD⟩ := bd hD
                      refine ew_callVv (as := [vi 1]) (a := x0) (rest := []) dX9_oneLine_263 v_X9_known w_1541 rfl (Nat.le_of_ble_eq_true rfl) rfl rfl g0 (Nat.le_of_ble_eq_true rfl) (Nat.le_of_ble_eq_true rfl) (ct_X9_known g) ?_
                      refine ev_istore_n dX9_oneLine_266 rfl (Nat.le_of_ble_eq_true rfl) rfl ?_
                      refine ev_aload_n dX9_oneLine_267 1 rfl rfl ?_
                      refine ev_iconst dX9_oneLine_268 (mi_c rfl) ?_
                      obtain ⟨_, g0, hD⟩ := bd hD
                      obtain ⟨r26, g, hD⟩ := bd hD
                      refine ew_callVv (as := [vi 1]) (a := x0) (rest := []) dX9_oneLine_269 v_X9_known w_1541 rfl (Nat.le_of_ble_eq_true rfl) rfl rfl g0 (Nat.le_of_ble_eq_true rfl) (Nat.le_of_ble_eq_true rfl) (ct_X9_known g) ?_
                      refine ev_istore_n dX9_oneLine_272 rfl (Nat.le_of_ble_eq_true rfl) rfl ?_
                      refine ev_aload_n dX9_oneLine_273 2 rfl rfl ?_
                      refine ev_iconst dX9_oneLine_274 (mi_c rfl) ?_
                      refine ev_iload_n dX9_oneLine_275 1 rfl rfl ?_
                      refine ev_iload_n dX9_oneLine_276 0 rfl rfl ?_
                      refine ev_aload_n dX9_oneLine_277 2 rfl rfl ?_
                      obtain ⟨_, g0, hD⟩ := bd hD
                      obtain ⟨r27, g, hD⟩ := bd hD
                      refine ew_callVv (as := []) (a := x0) (rest := [vi r26.1, vi r25.1, vi 4, vr x0]) dX9_oneLine_278 v_X9_isDigit w_1484 rfl (Nat.le_of_ble_eq_true rfl) rfl rfl g0 (Nat.le_of_ble_eq_true rfl) (Nat.le_of_ble_eq_true rfl) (ct_X9_isDigit g) ?_
                      by_cases c : r27.1 = 0
                      · rw [if_pos c] at hD
                        refine ev_if_eq_t (tgt := 295) dX9_oneLine_281 (by decide) c ?_
                        refine ev_iconst dX9_oneLine_295 (mi_c rfl) ?_
                        refine Ev.pick [2] rfl ?_
                        exact lk_X9_oneLine_296 hD
                      · rw [if_neg c] at hD
                        refine ev_if_eq_f 295 dX9_oneLine_281 (by decide) c ?_
                        refine ev_aload_n dX9_oneLine_284 2 rfl rfl ?_
                        refine ev_iconst dX9_oneLine_285 (mi_c rfl) ?_
                        refine ev_sp dX9_oneLine_286 rfl ?_
                        obtain ⟨_, g0, hD⟩ := bd hD
                        obtain ⟨r28, g, hD⟩ := bd hD
                        refine ew_callVv (as := [vi 0, vi 999]) (a := x0) (rest := [vi r26.1, vi r25.1, vi 4, vr x0]) dX9_oneLine_289 v_X9_number w_1480 rfl (Nat.le_of_ble_eq_true rfl) rfl rfl g0 (Nat.le_of_ble_eq_true rfl) (Nat.le_of_ble_eq_true rfl) (ct_X9_number g) ?_
                        refine ev_goto (tgt := 296) dX9_oneLine_292 (by decide) ?_
                        refine Ev.pick [2] rfl ?_
                        exact lk_X9_oneLine_296 hD
                  · rw [if_neg c] at hD
                    refine ev_if_eq_f 251 dX9_oneLine_241 (by decide) c ?_
                    refine ev_aload_n dX9_oneLine_244 0 rfl rfl ?_
                    obtain ⟨_, g0, hD⟩ := bd hD
                    obtain ⟨r29, g, hD⟩ := bd hD
                    refine ew_callV0 (as := []) (a := x0) (rest := []) dX9_oneLine_245 v_X9_phaseLine w_1561 rfl (Nat.le_of_ble_eq_true rfl) rfl rfl g0 (Nat.le_of_ble_eq_true rfl) (Nat.le_of_ble_eq_true rfl) (ct_X9_phaseLine g) ?_
                    refine ev_goto (tgt := 397) dX9_oneLine_248 (by decide) ?_
                    exact lk_X9_oneLine_397 hD
                · rw [if_neg c] at hD
                  refine ev_if_eq_f 234 dX9_oneLine_206 (by decide) c ?_
                  refine ev_aload_n dX9_oneLine_209 0 rfl rfl ?_
                  refine ev_iconst dX9_oneLine_210 (mi_c rfl) ?_
                  obtain ⟨_, g0, hD⟩ := bd hD
                  obtain ⟨r30, g, hD⟩ := bd hD
                  refine ew_callVv (as := [vi 0]) (a := x0) (rest := []) dX9_oneLine_211 v_X9_known w_1541 rfl (Nat.le_of_ble_eq_true rfl) rfl rfl g0 (Nat.le_of_ble_eq_true rfl) (Nat.le_of_ble_eq_true rfl) (ct_X9_known g) ?_
                  refine ev_istore_n dX9_oneLine_214 rfl (Nat.le_of_ble_eq_true rfl) rfl ?_
                  refine ev_aload_n dX9_oneLine_215 1 rfl rfl ?_
                  refine ev_iconst dX9_oneLine_216 (mi_c rfl) ?_
                  refine ev_iload_n dX9_oneLine_217 0 rfl rfl ?_
                  refine ev_iconst dX9_oneLine_218 (mi_c rfl) ?_
                  refine ev_aload_n dX9_oneLine_219 1 rfl rfl ?_
                  refine ev_iconst dX9_oneLine_220 (mi_c rfl) ?_
                  refine ev_sp dX9_oneLine_221 rfl ?_
                  obtain ⟨_, g0, hD⟩ := bd hD
                  obtain ⟨r31, g, hD⟩ := bd hD
                  refine ew_callVv (as := [vi 0, vi 999]) (a := x0) (rest := [vi ((-1)), vi r30.1, vi 3, vr x0]) dX9_oneLine_224 v_X9_number w_1480 rfl (Nat.le_of_ble_eq_true rfl) rfl rfl g0 (Nat.le_of_ble_eq_true rfl) (Nat.le_of_ble_eq_true rfl) (ct_X9_number g) ?_
                  refine ev_iconst dX9_oneLine_227 (mi_c rfl) ?_
                  obtain ⟨_, g0, hD⟩ := bd hD
                  obtain ⟨r32, g, hD⟩ := bd hD
                  refine ew_callV0 (as := [vi 3, vi r30.1, vi ((-1)), vi r31.1, vi ((-1))]) (a := x0) (rest := []) dX9_oneLine_228 v_X9_lays_ w_1553 rfl (Nat.le_of_ble_eq_true rfl) rfl rfl g0 (Nat.le_of_ble_eq_true rfl) (Nat.le_of_ble_eq_true rfl) (ct_X9_lays_ g) ?_
                  refine ev_goto (tgt := 397) dX9_oneLine_231 (by decide) ?_
                  refine Ev.pick [1] rfl ?_
                  exact lk_X9_oneLine_397 hD
              · rw [if_neg c] at hD
                refine ev_if_eq_f 199 dX9_oneLine_171 (by decide) c ?_
                refine ev_aload_n dX9_oneLine_174 0 rfl rfl ?_
                refine ev_iconst dX9_oneLine_175 (mi_c rfl) ?_
                obtain ⟨_, g0, hD⟩ := bd hD
                obtain ⟨r33, g, hD⟩ := bd hD
                refine ew_callVv (as := [vi 0]) (a := x0) (rest := []) dX9_oneLine_176 v_X9_known w_1541 rfl (Nat.le_of_ble_eq_true rfl) rfl rfl g0 (Nat.le_of_ble_eq_true rfl) (Nat.le_of_ble_eq_true rfl) (ct_X9_known g) ?_
                refine ev_istore_n dX9_oneLine_179 rfl (Nat.le_of_ble_eq_true rfl) rfl ?_
                refine ev_aload_n dX9_oneLine_180 1 rfl rfl ?_
                refine ev_iconst dX9_oneLine_181 (mi_c rfl) ?_
                refine ev_iload_n dX9_oneLine_182 0 rfl rfl ?_
                refine ev_iconst dX9_oneLine_183 (mi_c rfl) ?_
                refine ev_aload_n dX9_oneLine_184 1 rfl rfl ?_
                refine ev_iconst dX9_oneLine_185 (mi_c rfl) ?_
                refine ev_sp dX9_oneLine_186 rfl ?_
                obtain ⟨_, g0, hD⟩ := bd hD
                obtain ⟨r34, g, hD⟩ := bd hD
                refine ew_callVv (as := [vi 0, vi 999]) (a := x0) (rest := [vi ((-1)), vi r33.1, vi 2, vr x0]) dX9_oneLine_189 v_X9_number w_1480 rfl (Nat.le_of_ble_eq_true rfl) rfl rfl g0 (Nat.le_of_ble_eq_true rfl) (Nat.le_of_ble_eq_true rfl) (ct_X9_number g) ?_
                refine ev_iconst dX9_oneLine_192 (mi_c rfl) ?_
                obtain ⟨_, g0, hD⟩ := bd hD
                obtain ⟨r35, g, hD⟩ := bd hD
                refine ew_callV0 (as := [vi 2, vi r33.1, vi ((-1)), vi r34.1, vi ((-1))]) (a := x0) (rest := []) dX9_oneLine_193 v_X9_lays_ w_1553 rfl (Nat.le_of_ble_eq_true rfl) rfl rfl g0 (Nat.le_of_ble_eq_true rfl) (Nat.le_of_ble_eq_true rfl) (ct_X9_lays_ g) ?_
                refine ev_goto (tgt := 397) dX9_oneLine_196 (by decide) ?_
                refine Ev.pick [1] rfl ?_
                exact lk_X9_oneLine_397 hD
            · rw [if_neg c] at hD
              refine ev_if_eq_f 164 dX9_oneLine_139 (by decide) c ?_
              refine ev_aload_n dX9_oneLine_142 0 rfl rfl ?_
              refine ev_iconst dX9_oneLine_143 (mi_c rfl) ?_
              obtain ⟨_, g0, hD⟩ := bd hD
              obtain ⟨r36, g, hD⟩ := bd hD
              refine ew_callVv (as := [vi 0]) (a := x0) (rest := []) dX9_oneLine_144 v_X9_known w_1541 rfl (Nat.le_of_ble_eq_true rfl) rfl rfl g0 (Nat.le_of_ble_eq_true rfl) (Nat.le_of_ble_eq_true rfl) (ct_X9_known g) ?_
              refine ev_istore_n dX9_oneLine_147 rfl (Nat.le_of_ble_eq_true rfl) rfl ?_
              refine ev_aload_n dX9_oneLine_148 1 rfl rfl ?_
              refine ev_iconst dX9_oneLine_149 (mi_c rfl) ?_
              refine ev_iload_n dX9_oneLine_150 0 rfl rfl ?_
              refine ev_aload_n dX9_oneLine_151 1 rfl rfl ?_
              refine ev_iconst dX9_oneLine_152 (mi_c rfl) ?_
              obtain ⟨_, g0, hD⟩ := bd hD
              obtain ⟨r37, g, hD⟩ := bd hD
              refine ew_callVv (as := [vi 0]) (a := x0) (rest := [vi r36.1, vi 1, vr x0]) dX9_oneLine_153 v_X9_known w_1541 rfl (Nat.le_of_ble_eq_true rfl) rfl rfl g0 (Nat.le_of_ble_eq_true rfl) (Nat.le_of_ble_eq_true rfl) (ct_X9_known g) ?_
              refine ev_iconst dX9_oneLine_156 (mi_c rfl) ?_
              refine ev_iconst dX9_oneLine_157 (mi_c rfl) ?_
              obtain ⟨_, g0, hD⟩ := bd hD
              obtain ⟨r38, g, hD⟩ := bd hD
              refine ew_callV0 (as := [vi 1, vi r36.1, vi r37.1, vi 0, vi ((-1))]) (a := x0) (rest := []) dX9_oneLine_158 v_X9_lays_ w_1553 rfl (Nat.le_of_ble_eq_true rfl) rfl rfl g0 (Nat.le_of_ble_eq_true rfl) (Nat.le_of_ble_eq_true rfl) (ct_X9_lays_ g) ?_
              refine ev_goto (tgt := 397) dX9_oneLine_161 (by decide) ?_
              refine Ev.pick [1] rfl ?_
              exact lk_X9_oneLine_397 hD
          · rw [if_neg c] at hD
            refine ev_if_eq_f 132 dX9_oneLine_122 (by decide) c ?_
            refine ev_aload_n dX9_oneLine_125 0 rfl rfl ?_
            obtain ⟨_, g0, hD⟩ := bd hD
            obtain ⟨r39, g, hD⟩ := bd hD
            refine ew_callV0 (as := []) (a := x0) (rest := []) dX9_oneLine_126 v_X9_beforeLine w_1537 rfl (Nat.le_of_ble_eq_true rfl) rfl rfl g0 (Nat.le_of_ble_eq_true rfl) (Nat.le_of_ble_eq_true rfl) (ct_X9_beforeLine g) ?_
            refine ev_goto (tgt := 397) dX9_oneLine_129 (by decide) ?_
            exact lk_X9_oneLine_397 hD
        · rw [if_neg c] at hD
          refine ev_if_eq_f 115 dX9_oneLine_105 (by decide) c ?_
          refine ev_aload_n dX9_oneLine_108 0 rfl rfl ?_
          obtain ⟨_, g0, hD⟩ := bd hD
          obtain ⟨r40, g, hD⟩ := bd hD
          refine ew_callV0 (as := []) (a := x0) (rest := []) dX9_oneLine_109 v_X9_ringed w_1528 rfl (Nat.le_of_ble_eq_true rfl) rfl rfl g0 (Nat.le_of_ble_eq_true rfl) (Nat.le_of_ble_eq_true rfl) (ct_X9_ringed g) ?_
          refine ev_goto (tgt := 397) dX9_oneLine_112 (by decide) ?_
          exact lk_X9_oneLine_397 hD
      · rw [if_neg c] at hD
        refine ev_if_eq_f 98 dX9_oneLine_88 (by decide) c ?_
        refine ev_aload_n dX9_oneLine_91 0 rfl rfl ?_
        obtain ⟨_, g0, hD⟩ := bd hD
        obtain ⟨r41, g, hD⟩ := bd hD
        refine ew_callV0 (as := []) (a := x0) (rest := []) dX9_oneLine_92 v_X9_dated w_1503 rfl (Nat.le_of_ble_eq_true rfl) rfl rfl g0 (Nat.le_of_ble_eq_true rfl) (Nat.le_of_ble_eq_true rfl) (ct_X9_dated g) ?_
        refine ev_goto (tgt := 397) dX9_oneLine_95 (by decide) ?_
        exact lk_X9_oneLine_397 hD
    · rw [if_neg c] at hD
      refine ev_if_eq_f 81 dX9_oneLine_66 (by decide) c ?_
      refine ev_aload_n dX9_oneLine_69 0 rfl rfl ?_
      refine ev_iconst dX9_oneLine_70 (mi_c rfl) ?_
      refine ev_aload_n dX9_oneLine_71 0 rfl rfl ?_
      obtain ⟨v42, g, hD⟩ := bd hD
      refine ew_getI 8 40 dX9_oneLine_72 rfl (Nat.le_of_ble_eq_true rfl) w_1305 in_X9 rfl g ?_
      obtain ⟨_, g0, hD⟩ := bd hD
      obtain ⟨r43, g, hD⟩ := bd hD
      refine ew_callV0 (as := [vi 3, vi v42]) (a := x0) (rest := []) dX9_oneLine_75 v_X9_wrong w_1472 rfl (Nat.le_of_ble_eq_true rfl) rfl rfl g0 (Nat.le_of_ble_eq_true rfl) (Nat.le_of_ble_eq_true rfl) (ct_X9_wrong g) ?_
      refine ev_goto (tgt := 397) dX9_oneLine_78 (by decide) ?_
      exact lk_X9_oneLine_397 hD
  · rw [if_neg c] at hD
    refine ev_if_ne_f 58 dX9_oneLine_43 (by decide) c ?_
    refine ev_aload_n dX9_oneLine_46 0 rfl rfl ?_
    refine ev_iconst dX9_oneLine_47 (mi_c rfl) ?_
    obtain ⟨s44, g, hD⟩ := bd hD
    refine ew_putI 8 49 dX9_oneLine_48 rfl (Nat.le_of_ble_eq_true rfl) w_1314 in_X9 tyX9_ok nmX9 (Or.inl rfl) rfl g ?_
    refine ev_aload_n dX9_oneLine_51 0 rfl rfl ?_
    obtain ⟨_, g0, hD⟩ := bd hD
    obtain ⟨r45, g, hD⟩ := bd hD
    refine ew_callV0 (as := []) (a := x0) (rest := []) dX9_oneLine_52 v_X9_curve w_1476 rfl (Nat.le_of_ble_eq_true rfl) rfl rfl g0 (Nat.le_of_ble_eq_true rfl) (Nat.le_of_ble_eq_true rfl) (ct_X9_curve g) ?_
    refine ev_goto (tgt := 397) dX9_oneLine_55 (by decide) ?_
    exact lk_X9_oneLine_397 hD
def D_X9_oneLine (x0 : Nat) (σ : mS) : Option mS :=
  (pI σ x0 8 48 0).bind fun s1 =>
  (gI s1 x0 8 49).bind fun v2 =>
  if v2 ≠ 0 then
    D_X9_oneLine_39 x0 s1
  else
    (tgO s1 x0 8).bind fun _ =>
    (D_X9_passes x0 (2 + 6) s1).bind fun r3 =>
    if r3.1 ≠ 0 then
      D_X9_oneLine_39 x0 r3.2
    else
      (tgO r3.2 x0 8).bind fun _ =>
      (D_X9_sign x0 r3.2).bind fun r4 =>
      (gI r4.2 x0 8 39).bind fun v5 =>
      (tgO r4.2 x0 8).bind fun _ =>
      (D_X9_wrong x0 1 v5 r4.2).bind fun r6 =>
      D_X9_oneLine_397 x0 r6
set_option maxRecDepth 100000 in
set_option maxHeartbeats 4000000 in
theorem lk_X9_oneLine {G : mG} {x0 : Nat} {σ : mS} {R : mS} (hD : D_X9_oneLine x0 σ = some R) : Ev G M_X9_oneLine 0 [(0, vr x0)] [] σ (.inl none) R := by
  unfold D_X9_oneLine at hD
  refine ev_aload_n dX9_oneLine_0 0 rfl rfl ?_
  refine ev_iconst dX9_oneLine_1 (mi_c rfl) ?_
  obtain ⟨s1, g, hD⟩ := bd hD
  refine ew_putI 8 48 dX9_oneLine_2 rfl (Nat.le_of_ble_eq_true rfl) w_1313 in_X9 tyX9_ok nmX9 (Or.inl rfl) rfl g ?_
  refine ev_aload_n dX9_oneLine_5 0 rfl rfl ?_
  obtain ⟨v2, g, hD⟩ := bd hD
  refine ew_getI 8 49 dX9_oneLine_6 rfl (Nat.le_of_ble_eq_true rfl) w_1314 in_X9 rfl g ?_
  by_cases c : v2 ≠ 0
  · rw [if_pos c] at hD
    refine ev_if_ne_t (tgt := 39) dX9_oneLine_9 (by decide) c ?_
    exact lk_X9_oneLine_39 hD
  · rw [if_neg c] at hD
    refine ev_if_ne_f 39 dX9_oneLine_9 (by decide) c ?_
    refine ev_aload_n dX9_oneLine_12 0 rfl rfl ?_
    refine ew_ldsw 6 dX9_oneLine_13 rfl lds_X9_311 ?_
    obtain ⟨_, g0, hD⟩ := bd hD
    obtain ⟨r3, g, hD⟩ := bd hD
    refine ew_callVv (as := [vr (2 + 6)]) (a := x0) (rest := []) dX9_oneLine_16 v_X9_passes w_1450 rfl (Nat.le_of_ble_eq_true rfl) rfl rfl g0 (Nat.le_of_ble_eq_true rfl) (Nat.le_of_ble_eq_true rfl) (ct_X9_passes g) ?_
    by_cases c : r3.1 ≠ 0
    · rw [if_pos c] at hD
      refine ev_if_ne_t (tgt := 39) dX9_oneLine_19 (by decide) c ?_
      exact lk_X9_oneLine_39 hD
    · rw [if_neg c] at hD
      refine ev_if_ne_f 39 dX9_oneLine_19 (by decide) c ?_
      refine ev_aload_n dX9_oneLine_22 0 rfl rfl ?_
      obtain ⟨_, g0, hD⟩ := bd hD
      obtain ⟨r4, g, hD⟩ := bd hD
      refine ew_callVv (as := []) (a := x0) (rest := []) dX9_oneLine_23 v_X9_sign w_1458 rfl (Nat.le_of_ble_eq_true rfl) rfl rfl g0 (Nat.le_of_ble_eq_true rfl) (Nat.le_of_ble_eq_true rfl) (ct_X9_sign g) ?_
      refine ev_pop dX9_oneLine_26 rfl ?_
      refine ev_aload_n dX9_oneLine_27 0 rfl rfl ?_
      refine ev_iconst dX9_oneLine_28 (mi_c rfl) ?_
      refine ev_aload_n dX9_oneLine_29 0 rfl rfl ?_
      obtain ⟨v5, g, hD⟩ := bd hD
      refine ew_getI 8 39 dX9_oneLine_30 rfl (Nat.le_of_ble_eq_true rfl) w_1304 in_X9 rfl g ?_
      obtain ⟨_, g0, hD⟩ := bd hD
      obtain ⟨r6, g, hD⟩ := bd hD
      refine ew_callV0 (as := [vi 1, vi v5]) (a := x0) (rest := []) dX9_oneLine_33 v_X9_wrong w_1472 rfl (Nat.le_of_ble_eq_true rfl) rfl rfl g0 (Nat.le_of_ble_eq_true rfl) (Nat.le_of_ble_eq_true rfl) (ct_X9_wrong g) ?_
      refine ev_goto (tgt := 397) dX9_oneLine_36 (by decide) ?_
      exact lk_X9_oneLine_397 hD
theorem ct_X9_oneLine {G : mG} {x0 : Nat} {σ : mS} {R : mS} (hD : D_X9_oneLine x0 σ = some R) : Ct G M_X9_oneLine [vr x0] σ (.inl none) R := ct_of rfl (by decide +kernel) rfl (Nat.le_of_ble_eq_true rfl) rfl (lk_X9_oneLine hD)
def D_X9_takesOver_36 : Nat → Nat → Int → mS → Option mS
  | 0, _, _, _ => none
  | f + 1, x0, x1, σ =>
    if 16 ≤ x1 then
      some σ
    else
      (gR σ x0 8 9).bind fun v1 =>
      (gR σ x0 8 32).bind fun v2 =>
      (lI σ v2 x1).bind fun v3 =>
      (sI σ v1 x1 v3).bind fun s4 =>
      (gR s4 x0 8 10).bind fun v5 =>
      (gR s4 x0 8 33).bind fun v6 =>
      (lI s4 v6 x1).bind fun v7 =>
      (sI s4 v5 x1 v7).bind fun s8 =>
      (D_X9_takesOver_36 f) x0 (mw (x1 + 1)) s8
set_option maxRecDepth 100000 in
set_option maxHeartbeats 4000000 in
theorem lk_X9_takesOver_36 {G : mG} (f : Nat) : ∀ {x0 : Nat} {x1 : Int} {σ : mS} {R : mS}, D_X9_takesOver_36 f x0 x1 σ = some R → ∀ {r : mX} {τ : mS}, Ev G M_X9_takesOver 72 [(0, vr x0)] [] R r τ → Ev G M_X9_takesOver 36 [(0, vr x0), (1, vi x1)] [] σ r τ := by
  induction f with
  | zero =>
    intros
    rename_i hD _ _ _
    cases hD
  | succ f ih =>
    intro x0 x1 σ R hD r τ hk
    have hrec := @ih
    rw [D_X9_takesOver_36] at hD
    refine ev_iload_n dX9_takesOver_36 1 rfl rfl ?_
    refine ev_bp dX9_takesOver_37 rfl ?_
    by_cases c : 16 ≤ x1
    · rw [if_pos c] at hD
      refine ev_icmp_ge_t (tgt := 72) dX9_takesOver_39 (by decide) c ?_
      cases hD
      refine Ev.pick [0] rfl ?_
      exact hk
    · rw [if_neg c] at hD
      refine ev_icmp_ge_f 72 dX9_takesOver_39 (by decide) c ?_
      refine ev_aload_n dX9_takesOver_42 0 rfl rfl ?_
      obtain ⟨v1, g, hD⟩ := bd hD
      refine ew_getR 8 9 dX9_takesOver_43 rfl (Nat.le_of_ble_eq_true rfl) w_1274 in_X9 rfl g ?_
      refine ev_iload_n dX9_takesOver_46 1 rfl rfl ?_
      refine ev_aload_n dX9_takesOver_47 0 rfl rfl ?_
      obtain ⟨v2, g, hD⟩ := bd hD
      refine ew_getR 8 32 dX9_takesOver_48 rfl (Nat.le_of_ble_eq_true rfl) w_1297 in_X9 rfl g ?_
      refine ev_iload_n dX9_takesOver_51 1 rfl rfl ?_
      obtain ⟨v3, g, hD⟩ := bd hD
      refine ew_iald dX9_takesOver_52 g ?_
      obtain ⟨s4, g, hD⟩ := bd hD
      refine ew_iast dX9_takesOver_53 g ?_
      refine ev_aload_n dX9_takesOver_54 0 rfl rfl ?_
      obtain ⟨v5, g, hD⟩ := bd hD
      refine ew_getR 8 10 dX9_takesOver_55 rfl (Nat.le_of_ble_eq_true rfl) w_1275 in_X9 rfl g ?_
      refine ev_iload_n dX9_takesOver_58 1 rfl rfl ?_
      refine ev_aload_n dX9_takesOver_59 0 rfl rfl ?_
      obtain ⟨v6, g, hD⟩ := bd hD
      refine ew_getR 8 33 dX9_takesOver_60 rfl (Nat.le_of_ble_eq_true rfl) w_1298 in_X9 rfl g ?_
      refine ev_iload_n dX9_takesOver_63 1 rfl rfl ?_
      obtain ⟨v7, g, hD⟩ := bd hD
      refine ew_iald dX9_takesOver_64 g ?_
      obtain ⟨s8, g, hD⟩ := bd hD
      refine ew_iast dX9_takesOver_65 g ?_
      refine ev_iinc dX9_takesOver_66 1 rfl (Nat.le_of_ble_eq_true rfl) rfl ?_
      refine ev_goto (tgt := 36) dX9_takesOver_69 (by decide) ?_
      refine Ev.pick [1, 0] rfl ?_
      exact hrec hD hk
def D_X9_takesOver_74 : Nat → Nat → Int → mS → Option mS
  | 0, _, _, _ => none
  | f + 1, x0, x1, σ =>
    if 4 ≤ x1 then
      some σ
    else
      (gR σ x0 8 11).bind fun v1 =>
      (gR σ x0 8 34).bind fun v2 =>
      (lI σ v2 x1).bind fun v3 =>
      (sI σ v1 x1 v3).bind fun s4 =>
      (D_X9_takesOver_74 f) x0 (mw (x1 + 1)) s4
set_option maxRecDepth 100000 in
set_option maxHeartbeats 4000000 in
theorem lk_X9_takesOver_74 {G : mG} (f : Nat) : ∀ {x0 : Nat} {x1 : Int} {σ : mS} {R : mS}, D_X9_takesOver_74 f x0 x1 σ = some R → ∀ {r : mX} {τ : mS}, Ev G M_X9_takesOver 97 [(0, vr x0)] [] R r τ → Ev G M_X9_takesOver 74 [(0, vr x0), (1, vi x1)] [] σ r τ := by
  induction f with
  | zero =>
    intros
    rename_i hD _ _ _
    cases hD
  | succ f ih =>
    intro x0 x1 σ R hD r τ hk
    have hrec := @ih
    rw [D_X9_takesOver_74] at hD
    refine ev_iload_n dX9_takesOver_74 1 rfl rfl ?_
    refine ev_iconst dX9_takesOver_75 (mi_c rfl) ?_
    by_cases c : 4 ≤ x1
    · rw [if_pos c] at hD
      refine ev_icmp_ge_t (tgt := 97) dX9_takesOver_76 (by decide) c ?_
      cases hD
      refine Ev.pick [0] rfl ?_
      exact hk
    · rw [if_neg c] at hD
      refine ev_icmp_ge_f 97 dX9_takesOver_76 (by decide) c ?_
      refine ev_aload_n dX9_takesOver_79 0 rfl rfl ?_
      obtain ⟨v1, g, hD⟩ := bd hD
      refine ew_getR 8 11 dX9_takesOver_80 rfl (Nat.le_of_ble_eq_true rfl) w_1276 in_X9 rfl g ?_
      refine ev_iload_n dX9_takesOver_83 1 rfl rfl ?_
      refine ev_aload_n dX9_takesOver_84 0 rfl rfl ?_
      obtain ⟨v2, g, hD⟩ := bd hD
      refine ew_getR 8 34 dX9_takesOver_85 rfl (Nat.le_of_ble_eq_true rfl) w_1299 in_X9 rfl g ?_
      refine ev_iload_n dX9_takesOver_88 1 rfl rfl ?_
      obtain ⟨v3, g, hD⟩ := bd hD
      refine ew_iald dX9_takesOver_89 g ?_
      obtain ⟨s4, g, hD⟩ := bd hD
      refine ew_iast dX9_takesOver_90 g ?_
      refine ev_iinc dX9_takesOver_91 1 rfl (Nat.le_of_ble_eq_true rfl) rfl ?_
      refine ev_goto (tgt := 74) dX9_takesOver_94 (by decide) ?_
      refine Ev.pick [1, 0] rfl ?_
      exact hrec hD hk
def D_X9_takesOver_99 : Nat → Nat → Int → mS → Option mS
  | 0, _, _, _ => none
  | f + 1, x0, x1, σ =>
    if 24 ≤ x1 then
      some σ
    else
      (gR σ x0 8 12).bind fun v1 =>
      (gR σ x0 8 35).bind fun v2 =>
      (lI σ v2 x1).bind fun v3 =>
      (sI σ v1 x1 v3).bind fun s4 =>
      (D_X9_takesOver_99 f) x0 (mw (x1 + 1)) s4
set_option maxRecDepth 100000 in
set_option maxHeartbeats 4000000 in
theorem lk_X9_takesOver_99 {G : mG} (f : Nat) : ∀ {x0 : Nat} {x1 : Int} {σ : mS} {R : mS}, D_X9_takesOver_99 f x0 x1 σ = some R → ∀ {r : mX} {τ : mS}, Ev G M_X9_takesOver 123 [] [] R r τ → Ev G M_X9_takesOver 99 [(0, vr x0), (1, vi x1)] [] σ r τ := by
  induction f with
  | zero =>
    intros
    rename_i hD _ _ _
    cases hD
  | succ f ih =>
    intro x0 x1 σ R hD r τ hk
    have hrec := @ih
    rw [D_X9_takesOver_99] at hD
    refine ev_iload_n dX9_takesOver_99 1 rfl rfl ?_
    refine ev_bp dX9_takesOver_100 rfl ?_
    by_cases c : 24 ≤ x1
    · rw [if_pos c] at hD
      refine ev_icmp_ge_t (tgt := 123) dX9_takesOver_102 (by decide) c ?_
      cases hD
      refine Ev.pick [] rfl ?_
      exact hk
    · rw [if_neg c] at hD
      refine ev_icmp_ge_f 123 dX9_takesOver_102 (by decide) c ?_
      refine ev_aload_n dX9_takesOver_105 0 rfl rfl ?_
      obtain ⟨v1, g, hD⟩ := bd hD
      refine ew_getR 8 12 dX9_takesOver_106 rfl (Nat.le_of_ble_eq_true rfl) w_1277 in_X9 rfl g ?_
      refine ev_iload_n dX9_takesOver_109 1 rfl rfl ?_
      refine ev_aload_n dX9_takesOver_110 0 rfl rfl ?_
      obtain ⟨v2, g, hD⟩ := bd hD
      refine ew_getR 8 35 dX9_takesOver_111 rfl (Nat.le_of_ble_eq_true rfl) w_1300 in_X9 rfl g ?_
      refine ev_iload_n dX9_takesOver_114 1 rfl rfl ?_
      obtain ⟨v3, g, hD⟩ := bd hD
      refine ew_iald dX9_takesOver_115 g ?_
      obtain ⟨s4, g, hD⟩ := bd hD
      refine ew_iast dX9_takesOver_116 g ?_
      refine ev_iinc dX9_takesOver_117 1 rfl (Nat.le_of_ble_eq_true rfl) rfl ?_
      refine ev_goto (tgt := 99) dX9_takesOver_120 (by decide) ?_
      refine Ev.pick [1, 0] rfl ?_
      exact hrec hD hk
def D_X9_takesOver (x0 : Nat) (σ : mS) : Option mS :=
  (gI σ x0 8 47).bind fun v1 =>
  (pI σ x0 8 8 v1).bind fun s2 =>
  (pB s2 x0 8 16 0).bind fun s3 =>
  (gI s3 x0 8 45).bind fun v4 =>
  (pI s3 x0 8 6 v4).bind fun s5 =>
  (gI s5 x0 8 46).bind fun v6 =>
  (pI s5 x0 8 7 v6).bind fun s7 =>
  (pI s7 x0 8 5 0).bind fun s8 =>
  (D_X9_takesOver_36 mFU x0 0 s8).bind fun r9 =>
  (D_X9_takesOver_74 mFU x0 0 r9).bind fun r10 =>
  (D_X9_takesOver_99 mFU x0 0 r10).bind fun r11 =>
  some r11
set_option maxRecDepth 100000 in
set_option maxHeartbeats 4000000 in
theorem lk_X9_takesOver {G : mG} {x0 : Nat} {σ : mS} {R : mS} (hD : D_X9_takesOver x0 σ = some R) : Ev G M_X9_takesOver 0 [(0, vr x0)] [] σ (.inl none) R := by
  unfold D_X9_takesOver at hD
  refine ev_aload_n dX9_takesOver_0 0 rfl rfl ?_
  refine ev_aload_n dX9_takesOver_1 0 rfl rfl ?_
  obtain ⟨v1, g, hD⟩ := bd hD
  refine ew_getI 8 47 dX9_takesOver_2 rfl (Nat.le_of_ble_eq_true rfl) w_1312 in_X9 rfl g ?_
  obtain ⟨s2, g, hD⟩ := bd hD
  refine ew_putI 8 8 dX9_takesOver_5 rfl (Nat.le_of_ble_eq_true rfl) w_1273 in_X9 tyX9_ok nmX9 (Or.inl rfl) rfl g ?_
  refine ev_aload_n dX9_takesOver_8 0 rfl rfl ?_
  refine ev_iconst dX9_takesOver_9 (mi_c rfl) ?_
  obtain ⟨s3, g, hD⟩ := bd hD
  refine ew_putB 8 16 dX9_takesOver_10 rfl (Nat.le_of_ble_eq_true rfl) w_1281 in_X9 tyX9_ok nmX9 (Or.inl rfl) rfl g ?_
  refine ev_aload_n dX9_takesOver_13 0 rfl rfl ?_
  refine ev_aload_n dX9_takesOver_14 0 rfl rfl ?_
  obtain ⟨v4, g, hD⟩ := bd hD
  refine ew_getI 8 45 dX9_takesOver_15 rfl (Nat.le_of_ble_eq_true rfl) w_1310 in_X9 rfl g ?_
  obtain ⟨s5, g, hD⟩ := bd hD
  refine ew_putI 8 6 dX9_takesOver_18 rfl (Nat.le_of_ble_eq_true rfl) w_1271 in_X9 tyX9_ok nmX9 (Or.inl rfl) rfl g ?_
  refine ev_aload_n dX9_takesOver_21 0 rfl rfl ?_
  refine ev_aload_n dX9_takesOver_22 0 rfl rfl ?_
  obtain ⟨v6, g, hD⟩ := bd hD
  refine ew_getI 8 46 dX9_takesOver_23 rfl (Nat.le_of_ble_eq_true rfl) w_1311 in_X9 rfl g ?_
  obtain ⟨s7, g, hD⟩ := bd hD
  refine ew_putI 8 7 dX9_takesOver_26 rfl (Nat.le_of_ble_eq_true rfl) w_1272 in_X9 tyX9_ok nmX9 (Or.inl rfl) rfl g ?_
  refine ev_aload_n dX9_takesOver_29 0 rfl rfl ?_
  refine ev_iconst dX9_takesOver_30 (mi_c rfl) ?_
  obtain ⟨s8, g, hD⟩ := bd hD
  refine ew_putI 8 5 dX9_takesOver_31 rfl (Nat.le_of_ble_eq_true rfl) w_1270 in_X9 tyX9_ok nmX9 (Or.inl rfl) rfl g ?_
  refine ev_iconst dX9_takesOver_34 (mi_c rfl) ?_
  refine ev_istore_n dX9_takesOver_35 rfl (Nat.le_of_ble_eq_true rfl) rfl ?_
  obtain ⟨r9, g, hD⟩ := bd hD
  refine Ev.pick [1, 0] rfl ?_
  refine lk_X9_takesOver_36 mFU g ?_
  refine ev_iconst dX9_takesOver_72 (mi_c rfl) ?_
  refine ev_istore_n dX9_takesOver_73 rfl (Nat.le_of_ble_eq_true rfl) rfl ?_
  obtain ⟨r10, g, hD⟩ := bd hD
  refine Ev.pick [1, 0] rfl ?_
  refine lk_X9_takesOver_74 mFU g ?_
  refine ev_iconst dX9_takesOver_97 (mi_c rfl) ?_
  refine ev_istore_n dX9_takesOver_98 rfl (Nat.le_of_ble_eq_true rfl) rfl ?_
  obtain ⟨r11, g, hD⟩ := bd hD
  refine Ev.pick [1, 0] rfl ?_
  refine lk_X9_takesOver_99 mFU g ?_
  cases hD
  exact ev_ret none dX9_takesOver_123 True.intro
theorem ct_X9_takesOver {G : mG} {x0 : Nat} {σ : mS} {R : mS} (hD : D_X9_takesOver x0 σ = some R) : Ct G M_X9_takesOver [vr x0] σ (.inl none) R := ct_of rfl (by decide +kernel) rfl (Nat.le_of_ble_eq_true rfl) rfl (lk_X9_takesOver hD)
