def D_X0_openAll_2 : Nat → Nat → Int → mS → Option mS
  | 0, _, _, _ => none
  | f + 1, x0, x1, σ =>
    (gR σ x0 0 0).bind fun v1 =>
    (gI σ v1 5 3).bind fun v2 =>
    if v2 ≤ x1 then
      some σ
    else
      (gR σ x0 0 2).bind fun v3 =>
      (lR σ v3 x1).bind fun v4 =>
      (D_X7_putAll v4 0 999 σ).bind fun r5 =>
      (D_X0_openAll_2 f) x0 (mw (x1 + 1)) r5
set_option maxRecDepth 100000 in
set_option maxHeartbeats 4000000 in
theorem lk_X0_openAll_2 {G : mG} (f : Nat) : ∀ {x0 : Nat} {x1 : Int} {σ : mS} {R : mS}, D_X0_openAll_2 f x0 x1 σ = some R → ∀ {r : mX} {τ : mS}, Ev G M_X0_openAll 32 [] [] R r τ → Ev G M_X0_openAll 2 [(0, vr x0), (1, vi x1)] [] σ r τ := by
  induction f with
  | zero =>
    intros
    rename_i hD _ _ _
    cases hD
  | succ f ih =>
    intro x0 x1 σ R hD r τ hk
    have hrec := @ih
    rw [D_X0_openAll_2] at hD
    refine ev_iload_n dX0_openAll_2 1 rfl rfl ?_
    refine ev_aload_n dX0_openAll_3 0 rfl rfl ?_
    obtain ⟨v1, g, hD⟩ := bd hD
    refine ew_getR 0 0 dX0_openAll_4 rfl (Nat.le_of_ble_eq_true rfl) w_387 in_X0 rfl g ?_
    obtain ⟨v2, g, hD⟩ := bd hD
    refine ew_getI 5 3 dX0_openAll_7 rfl (Nat.le_of_ble_eq_true rfl) w_277 in_X5 rfl g ?_
    by_cases c : v2 ≤ x1
    · rw [if_pos c] at hD
      refine ev_icmp_ge_t (tgt := 32) dX0_openAll_10 (by decide) c ?_
      cases hD
      refine Ev.pick [] rfl ?_
      exact hk
    · rw [if_neg c] at hD
      refine ev_icmp_ge_f 32 dX0_openAll_10 (by decide) c ?_
      refine ev_aload_n dX0_openAll_13 0 rfl rfl ?_
      obtain ⟨v3, g, hD⟩ := bd hD
      refine ew_getR 0 2 dX0_openAll_14 rfl (Nat.le_of_ble_eq_true rfl) w_389 in_X0 rfl g ?_
      refine ev_iload_n dX0_openAll_17 1 rfl rfl ?_
      obtain ⟨v4, g, hD⟩ := bd hD
      refine ew_aald dX0_openAll_18 g ?_
      refine ev_iconst dX0_openAll_19 (mi_c rfl) ?_
      refine ev_sp dX0_openAll_20 rfl ?_
      obtain ⟨r5, g, hD⟩ := bd hD
      refine ew_callS0 (as := [vr v4, vi 0, vi 999]) (rest := []) dX0_openAll_23 v_X7_putAll w_565 rfl (Nat.le_of_ble_eq_true rfl) (Nat.le_of_ble_eq_true rfl) (Nat.le_of_ble_eq_true rfl) (ct_X7_putAll g) ?_
      refine ev_iinc dX0_openAll_26 1 rfl (Nat.le_of_ble_eq_true rfl) rfl ?_
      refine ev_goto (tgt := 2) dX0_openAll_29 (by decide) ?_
      refine Ev.pick [1, 0] rfl ?_
      exact hrec hD hk
def D_X0_openAll (x0 : Nat) (σ : mS) : Option mS :=
  (D_X0_openAll_2 mFU x0 0 σ).bind fun r1 =>
  some r1
set_option maxRecDepth 100000 in
set_option maxHeartbeats 4000000 in
theorem lk_X0_openAll {G : mG} {x0 : Nat} {σ : mS} {R : mS} (hD : D_X0_openAll x0 σ = some R) : Ev G M_X0_openAll 0 [(0, vr x0)] [] σ (.inl none) R := by
  unfold D_X0_openAll at hD
  refine ev_iconst dX0_openAll_0 (mi_c rfl) ?_
  refine ev_istore_n dX0_openAll_1 rfl (Nat.le_of_ble_eq_true rfl) rfl ?_
  obtain ⟨r1, g, hD⟩ := bd hD
  refine Ev.pick [1, 0] rfl ?_
  refine lk_X0_openAll_2 mFU g ?_
  cases hD
  exact ev_ret none dX0_openAll_32 True.intro
theorem ct_X0_openAll {G : mG} {x0 : Nat} {σ : mS} {R : mS} (hD : D_X0_openAll x0 σ = some R) : Ct G M_X0_openAll [vr x0] σ (.inl none) R := ct_of rfl (by decide +kernel) rfl (Nat.le_of_ble_eq_true rfl) rfl (lk_X0_openAll hD)
def D_X0_takeFirst_2 : Nat → Nat → Nat → Int → mS → Option mS
  | 0, _, _, _, _ => none
  | f + 1, x0, x1, x2, σ =>
    (gR σ x0 0 0).bind fun v1 =>
    (gI σ v1 5 3).bind fun v2 =>
    if v2 ≤ x2 then
      some σ
    else
      (gR σ x1 0 2).bind fun v3 =>
      (lR σ v3 x2).bind fun v4 =>
      (gR σ x0 0 2).bind fun v5 =>
      (lR σ v5 x2).bind fun v6 =>
      (cpL σ v4 v6 16).bind fun s7 =>
      (D_X0_takeFirst_2 f) x0 x1 (mw (x2 + 1)) s7
set_option maxRecDepth 100000 in
set_option maxHeartbeats 4000000 in
theorem lk_X0_takeFirst_2 {G : mG} (f : Nat) : ∀ {x0 : Nat} {x1 : Nat} {x2 : Int} {σ : mS} {R : mS}, D_X0_takeFirst_2 f x0 x1 x2 σ = some R → ∀ {r : mX} {τ : mS}, Ev G M_X0_takeFirst 38 [] [] R r τ → Ev G M_X0_takeFirst 2 [(0, vr x0), (1, vr x1), (2, vi x2)] [] σ r τ := by
  induction f with
  | zero =>
    intros
    rename_i hD _ _ _
    cases hD
  | succ f ih =>
    intro x0 x1 x2 σ R hD r τ hk
    have hrec := @ih
    rw [D_X0_takeFirst_2] at hD
    refine ev_iload_n dX0_takeFirst_2 2 rfl rfl ?_
    refine ev_aload_n dX0_takeFirst_3 0 rfl rfl ?_
    obtain ⟨v1, g, hD⟩ := bd hD
    refine ew_getR 0 0 dX0_takeFirst_4 rfl (Nat.le_of_ble_eq_true rfl) w_387 in_X0 rfl g ?_
    obtain ⟨v2, g, hD⟩ := bd hD
    refine ew_getI 5 3 dX0_takeFirst_7 rfl (Nat.le_of_ble_eq_true rfl) w_277 in_X5 rfl g ?_
    by_cases c : v2 ≤ x2
    · rw [if_pos c] at hD
      refine ev_icmp_ge_t (tgt := 38) dX0_takeFirst_10 (by decide) c ?_
      cases hD
      refine Ev.pick [] rfl ?_
      exact hk
    · rw [if_neg c] at hD
      refine ev_icmp_ge_f 38 dX0_takeFirst_10 (by decide) c ?_
      refine ev_aload_n dX0_takeFirst_13 1 rfl rfl ?_
      obtain ⟨v3, g, hD⟩ := bd hD
      refine ew_getR 0 2 dX0_takeFirst_14 rfl (Nat.le_of_ble_eq_true rfl) w_389 in_X0 rfl g ?_
      refine ev_iload_n dX0_takeFirst_17 2 rfl rfl ?_
      obtain ⟨v4, g, hD⟩ := bd hD
      refine ew_aald dX0_takeFirst_18 g ?_
      refine ev_iconst dX0_takeFirst_19 (mi_c rfl) ?_
      refine ev_aload_n dX0_takeFirst_20 0 rfl rfl ?_
      obtain ⟨v5, g, hD⟩ := bd hD
      refine ew_getR 0 2 dX0_takeFirst_21 rfl (Nat.le_of_ble_eq_true rfl) w_389 in_X0 rfl g ?_
      refine ev_iload_n dX0_takeFirst_24 2 rfl rfl ?_
      obtain ⟨v6, g, hD⟩ := bd hD
      refine ew_aald dX0_takeFirst_25 g ?_
      refine ev_iconst dX0_takeFirst_26 (mi_c rfl) ?_
      refine ev_bp dX0_takeFirst_27 rfl ?_
      obtain ⟨s7, g, hD⟩ := bd hD
      refine ew_copyL dX0_takeFirst_29 w_523 w_525 w_524 w_134 (Nat.le_of_ble_eq_true rfl) (Nat.le_of_ble_eq_true rfl) (Nat.le_of_ble_eq_true rfl) g ?_
      refine ev_iinc dX0_takeFirst_32 2 rfl (Nat.le_of_ble_eq_true rfl) rfl ?_
      refine ev_goto (tgt := 2) dX0_takeFirst_35 (by decide) ?_
      refine Ev.pick [1, 2, 0] rfl ?_
      exact hrec hD hk
def D_X0_takeFirst (x0 : Nat) (x1 : Nat) (σ : mS) : Option mS :=
  (D_X0_takeFirst_2 mFU x0 x1 0 σ).bind fun r1 =>
  some r1
set_option maxRecDepth 100000 in
set_option maxHeartbeats 4000000 in
theorem lk_X0_takeFirst {G : mG} {x0 : Nat} {x1 : Nat} {σ : mS} {R : mS} (hD : D_X0_takeFirst x0 x1 σ = some R) : Ev G M_X0_takeFirst 0 [(0, vr x0), (1, vr x1)] [] σ (.inl none) R := by
  unfold D_X0_takeFirst at hD
  refine ev_iconst dX0_takeFirst_0 (mi_c rfl) ?_
  refine ev_istore_n dX0_takeFirst_1 rfl (Nat.le_of_ble_eq_true rfl) rfl ?_
  obtain ⟨r1, g, hD⟩ := bd hD
  refine Ev.pick [1, 2, 0] rfl ?_
  refine lk_X0_takeFirst_2 mFU g ?_
  cases hD
  exact ev_ret none dX0_takeFirst_38 True.intro
theorem ct_X0_takeFirst {G : mG} {x0 : Nat} {x1 : Nat} {σ : mS} {R : mS} (hD : D_X0_takeFirst x0 x1 σ = some R) : Ct G M_X0_takeFirst [vr x0, vr x1] σ (.inl none) R := ct_of rfl (by decide +kernel) rfl (Nat.le_of_ble_eq_true rfl) rfl (lk_X0_takeFirst hD)
def D_X0_takeSpans_2 : Nat → Nat → Nat → Int → mS → Option mS
  | 0, _, _, _, _ => none
  | f + 1, x0, x1, x2, σ =>
    (gR σ x0 0 0).bind fun v1 =>
    (gI σ v1 5 3).bind fun v2 =>
    if v2 ≤ x2 then
      some σ
    else
      (gR σ x1 0 3).bind fun v3 =>
      (lR σ v3 x2).bind fun v4 =>
      (gR σ x0 0 2).bind fun v5 =>
      (lR σ v5 x2).bind fun v6 =>
      (cpL σ v4 v6 16).bind fun s7 =>
      (D_X0_takeSpans_2 f) x0 x1 (mw (x2 + 1)) s7
set_option maxRecDepth 100000 in
set_option maxHeartbeats 4000000 in
theorem lk_X0_takeSpans_2 {G : mG} (f : Nat) : ∀ {x0 : Nat} {x1 : Nat} {x2 : Int} {σ : mS} {R : mS}, D_X0_takeSpans_2 f x0 x1 x2 σ = some R → ∀ {r : mX} {τ : mS}, Ev G M_X0_takeSpans 38 [] [] R r τ → Ev G M_X0_takeSpans 2 [(0, vr x0), (1, vr x1), (2, vi x2)] [] σ r τ := by
  induction f with
  | zero =>
    intros
    rename_i hD _ _ _
    cases hD
  | succ f ih =>
    intro x0 x1 x2 σ R hD r τ hk
    have hrec := @ih
    rw [D_X0_takeSpans_2] at hD
    refine ev_iload_n dX0_takeSpans_2 2 rfl rfl ?_
    refine ev_aload_n dX0_takeSpans_3 0 rfl rfl ?_
    obtain ⟨v1, g, hD⟩ := bd hD
    refine ew_getR 0 0 dX0_takeSpans_4 rfl (Nat.le_of_ble_eq_true rfl) w_387 in_X0 rfl g ?_
    obtain ⟨v2, g, hD⟩ := bd hD
    refine ew_getI 5 3 dX0_takeSpans_7 rfl (Nat.le_of_ble_eq_true rfl) w_277 in_X5 rfl g ?_
    by_cases c : v2 ≤ x2
    · rw [if_pos c] at hD
      refine ev_icmp_ge_t (tgt := 38) dX0_takeSpans_10 (by decide) c ?_
      cases hD
      refine Ev.pick [] rfl ?_
      exact hk
    · rw [if_neg c] at hD
      refine ev_icmp_ge_f 38 dX0_takeSpans_10 (by decide) c ?_
      refine ev_aload_n dX0_takeSpans_13 1 rfl rfl ?_
      obtain ⟨v3, g, hD⟩ := bd hD
      refine ew_getR 0 3 dX0_takeSpans_14 rfl (Nat.le_of_ble_eq_true rfl) w_391 in_X0 rfl g ?_
      refine ev_iload_n dX0_takeSpans_17 2 rfl rfl ?_
      obtain ⟨v4, g, hD⟩ := bd hD
      refine ew_aald dX0_takeSpans_18 g ?_
      refine ev_iconst dX0_takeSpans_19 (mi_c rfl) ?_
      refine ev_aload_n dX0_takeSpans_20 0 rfl rfl ?_
      obtain ⟨v5, g, hD⟩ := bd hD
      refine ew_getR 0 2 dX0_takeSpans_21 rfl (Nat.le_of_ble_eq_true rfl) w_389 in_X0 rfl g ?_
      refine ev_iload_n dX0_takeSpans_24 2 rfl rfl ?_
      obtain ⟨v6, g, hD⟩ := bd hD
      refine ew_aald dX0_takeSpans_25 g ?_
      refine ev_iconst dX0_takeSpans_26 (mi_c rfl) ?_
      refine ev_bp dX0_takeSpans_27 rfl ?_
      obtain ⟨s7, g, hD⟩ := bd hD
      refine ew_copyL dX0_takeSpans_29 w_523 w_525 w_524 w_134 (Nat.le_of_ble_eq_true rfl) (Nat.le_of_ble_eq_true rfl) (Nat.le_of_ble_eq_true rfl) g ?_
      refine ev_iinc dX0_takeSpans_32 2 rfl (Nat.le_of_ble_eq_true rfl) rfl ?_
      refine ev_goto (tgt := 2) dX0_takeSpans_35 (by decide) ?_
      refine Ev.pick [1, 2, 0] rfl ?_
      exact hrec hD hk
def D_X0_takeSpans (x0 : Nat) (x1 : Nat) (σ : mS) : Option mS :=
  (D_X0_takeSpans_2 mFU x0 x1 0 σ).bind fun r1 =>
  some r1
set_option maxRecDepth 100000 in
set_option maxHeartbeats 4000000 in
theorem lk_X0_takeSpans {G : mG} {x0 : Nat} {x1 : Nat} {σ : mS} {R : mS} (hD : D_X0_takeSpans x0 x1 σ = some R) : Ev G M_X0_takeSpans 0 [(0, vr x0), (1, vr x1)] [] σ (.inl none) R := by
  unfold D_X0_takeSpans at hD
  refine ev_iconst dX0_takeSpans_0 (mi_c rfl) ?_
  refine ev_istore_n dX0_takeSpans_1 rfl (Nat.le_of_ble_eq_true rfl) rfl ?_
  obtain ⟨r1, g, hD⟩ := bd hD
  refine Ev.pick [1, 2, 0] rfl ?_
  refine lk_X0_takeSpans_2 mFU g ?_
  cases hD
  exact ev_ret none dX0_takeSpans_38 True.intro
theorem ct_X0_takeSpans {G : mG} {x0 : Nat} {x1 : Nat} {σ : mS} {R : mS} (hD : D_X0_takeSpans x0 x1 σ = some R) : Ct G M_X0_takeSpans [vr x0, vr x1] σ (.inl none) R := ct_of rfl (by decide +kernel) rfl (Nat.le_of_ble_eq_true rfl) rfl (lk_X0_takeSpans hD)
def D_X0_pin (x0 : Nat) (x1 : Int) (x2 : Int) (σ : mS) : Option mS :=
  (gR σ x0 0 2).bind fun v1 =>
  (lR σ v1 x1).bind fun v2 =>
  (D_X7_clear v2 σ).bind fun r3 =>
  (gR r3 x0 0 2).bind fun v4 =>
  (lR r3 v4 x1).bind fun v5 =>
  (D_X7_put v5 x2 r3).bind fun r6 =>
  some r6
set_option maxRecDepth 100000 in
set_option maxHeartbeats 4000000 in
theorem lk_X0_pin {G : mG} {x0 : Nat} {x1 : Int} {x2 : Int} {σ : mS} {R : mS} (hD : D_X0_pin x0 x1 x2 σ = some R) : Ev G M_X0_pin 0 [(0, vr x0), (1, vi x1), (2, vi x2)] [] σ (.inl none) R := by
  unfold D_X0_pin at hD
  refine ev_aload_n dX0_pin_0 0 rfl rfl ?_
  obtain ⟨v1, g, hD⟩ := bd hD
  refine ew_getR 0 2 dX0_pin_1 rfl (Nat.le_of_ble_eq_true rfl) w_389 in_X0 rfl g ?_
  refine ev_iload_n dX0_pin_4 1 rfl rfl ?_
  obtain ⟨v2, g, hD⟩ := bd hD
  refine ew_aald dX0_pin_5 g ?_
  obtain ⟨r3, g, hD⟩ := bd hD
  refine ew_callS0 (as := [vr v2]) (rest := []) dX0_pin_6 v_X7_clear w_493 rfl (Nat.le_of_ble_eq_true rfl) (Nat.le_of_ble_eq_true rfl) (Nat.le_of_ble_eq_true rfl) (ct_X7_clear g) ?_
  refine ev_aload_n dX0_pin_9 0 rfl rfl ?_
  obtain ⟨v4, g, hD⟩ := bd hD
  refine ew_getR 0 2 dX0_pin_10 rfl (Nat.le_of_ble_eq_true rfl) w_389 in_X0 rfl g ?_
  refine ev_iload_n dX0_pin_13 1 rfl rfl ?_
  obtain ⟨v5, g, hD⟩ := bd hD
  refine ew_aald dX0_pin_14 g ?_
  refine ev_iload_n dX0_pin_15 2 rfl rfl ?_
  obtain ⟨r6, g, hD⟩ := bd hD
  refine ew_callS0 (as := [vr v5, vi x2]) (rest := []) dX0_pin_16 v_X7_put w_508 rfl (Nat.le_of_ble_eq_true rfl) (Nat.le_of_ble_eq_true rfl) (Nat.le_of_ble_eq_true rfl) (ct_X7_put g) ?_
  cases hD
  exact ev_ret none dX0_pin_19 True.intro
theorem ct_X0_pin {G : mG} {x0 : Nat} {x1 : Int} {x2 : Int} {σ : mS} {R : mS} (hD : D_X0_pin x0 x1 x2 σ = some R) : Ct G M_X0_pin [vr x0, vi x1, vi x2] σ (.inl none) R := ct_of rfl (by decide +kernel) rfl (Nat.le_of_ble_eq_true rfl) rfl (lk_X0_pin hD)
