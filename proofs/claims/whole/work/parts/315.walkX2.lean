def D_X2_peek_69 (y0 : Int) (σ : mS) : Option (Int × mS) :=
  some (y0, σ)
set_option maxRecDepth 100000 in
set_option maxHeartbeats 4000000 in
theorem lk_X2_peek_69 {G : mG} {y0 : Int} {σ : mS} {R : (Int × mS)} (hD : D_X2_peek_69 y0 σ = some R) : Ev G M_X2_peek 69 [] [vi y0] σ (.inl (some (vi R.1))) R.2 := by
  unfold D_X2_peek_69 at hD
  cases hD
  exact ev_ret (some (vi _)) dX2_peek_69 True.intro
def D_X2_peek_45 (x0 : Nat) (σ : mS) : Option (Int × mS) :=
  (gI σ x0 2 5).bind fun v1 =>
  (gI σ x0 2 4).bind fun v2 =>
  if v2 ≤ v1 then
    D_X2_peek_69 ((-1)) σ
  else
    (gR σ x0 2 3).bind fun v3 =>
    (gI σ x0 2 5).bind fun v4 =>
    (lI σ v3 v4).bind fun v5 =>
    D_X2_peek_69 v5 σ
set_option maxRecDepth 100000 in
set_option maxHeartbeats 4000000 in
theorem lk_X2_peek_45 {G : mG} {x0 : Nat} {σ : mS} {R : (Int × mS)} (hD : D_X2_peek_45 x0 σ = some R) : Ev G M_X2_peek 45 [(0, vr x0)] [] σ (.inl (some (vi R.1))) R.2 := by
  unfold D_X2_peek_45 at hD
  refine ev_aload_n dX2_peek_45 0 rfl rfl ?_
  obtain ⟨v1, g, hD⟩ := bd hD
  refine ew_getI 2 5 dX2_peek_46 rfl (Nat.le_of_ble_eq_true rfl) w_347 in_X2 rfl g ?_
  refine ev_aload_n dX2_peek_49 0 rfl rfl ?_
  obtain ⟨v2, g, hD⟩ := bd hD
  refine ew_getI 2 4 dX2_peek_50 rfl (Nat.le_of_ble_eq_true rfl) w_346 in_X2 rfl g ?_
  by_cases c : v2 ≤ v1
  · rw [if_pos c] at hD
    refine ev_icmp_ge_t (tgt := 68) dX2_peek_53 (by decide) c ?_
    refine ev_iconst dX2_peek_68 (mi_c rfl) ?_
    refine Ev.pick [] rfl ?_
    exact lk_X2_peek_69 hD
  · rw [if_neg c] at hD
    refine ev_icmp_ge_f 68 dX2_peek_53 (by decide) c ?_
    refine ev_aload_n dX2_peek_56 0 rfl rfl ?_
    obtain ⟨v3, g, hD⟩ := bd hD
    refine ew_getR 2 3 dX2_peek_57 rfl (Nat.le_of_ble_eq_true rfl) w_345 in_X2 rfl g ?_
    refine ev_aload_n dX2_peek_60 0 rfl rfl ?_
    obtain ⟨v4, g, hD⟩ := bd hD
    refine ew_getI 2 5 dX2_peek_61 rfl (Nat.le_of_ble_eq_true rfl) w_347 in_X2 rfl g ?_
    obtain ⟨v5, g, hD⟩ := bd hD
    refine ew_iald dX2_peek_64 g ?_
    refine ev_goto (tgt := 69) dX2_peek_65 (by decide) ?_
    refine Ev.pick [] rfl ?_
    exact lk_X2_peek_69 hD
def D_X2_peek_0 : Nat → Nat → mS → Option mS
  | 0, _, _ => none
  | f + 1, x0, σ =>
    (gI σ x0 2 1).bind fun v1 =>
    if v1 ≠ 0 then
      some σ
    else
      (gI σ x0 2 5).bind fun v2 =>
      (gI σ x0 2 4).bind fun v3 =>
      if v3 ≤ v2 then
        some σ
      else
        (gR σ x0 2 3).bind fun v4 =>
        (gI σ x0 2 5).bind fun v5 =>
        (lI σ v4 v5).bind fun v6 =>
        if v6 ≠ 32 then
          some σ
        else
          (gI σ x0 2 5).bind fun v7 =>
          (pI σ x0 2 5 (mw (v7 + 1))).bind fun s8 =>
          (D_X2_peek_0 f) x0 s8
set_option maxRecDepth 100000 in
set_option maxHeartbeats 4000000 in
theorem lk_X2_peek_0 {G : mG} (f : Nat) : ∀ {x0 : Nat} {σ : mS} {R : mS}, D_X2_peek_0 f x0 σ = some R → ∀ {r : mX} {τ : mS}, Ev G M_X2_peek 45 [(0, vr x0)] [] R r τ → Ev G M_X2_peek 0 [(0, vr x0)] [] σ r τ := by
  induction f with
  | zero =>
    intros
    rename_i hD _ _ _
    cases hD
  | succ f ih =>
    intro x0 σ R hD r τ hk
    have hrec := @ih
    rw [D_X2_peek_0] at hD
    refine ev_aload_n dX2_peek_0 0 rfl rfl ?_
    obtain ⟨v1, g, hD⟩ := bd hD
    refine ew_getI 2 1 dX2_peek_1 rfl (Nat.le_of_ble_eq_true rfl) w_341 in_X2 rfl g ?_
    by_cases c : v1 ≠ 0
    · rw [if_pos c] at hD
      refine ev_if_ne_t (tgt := 45) dX2_peek_4 (by decide) c ?_
      cases hD
      exact hk
    · rw [if_neg c] at hD
      refine ev_if_ne_f 45 dX2_peek_4 (by decide) c ?_
      refine ev_aload_n dX2_peek_7 0 rfl rfl ?_
      obtain ⟨v2, g, hD⟩ := bd hD
      refine ew_getI 2 5 dX2_peek_8 rfl (Nat.le_of_ble_eq_true rfl) w_347 in_X2 rfl g ?_
      refine ev_aload_n dX2_peek_11 0 rfl rfl ?_
      obtain ⟨v3, g, hD⟩ := bd hD
      refine ew_getI 2 4 dX2_peek_12 rfl (Nat.le_of_ble_eq_true rfl) w_346 in_X2 rfl g ?_
      by_cases c : v3 ≤ v2
      · rw [if_pos c] at hD
        refine ev_icmp_ge_t (tgt := 45) dX2_peek_15 (by decide) c ?_
        cases hD
        exact hk
      · rw [if_neg c] at hD
        refine ev_icmp_ge_f 45 dX2_peek_15 (by decide) c ?_
        refine ev_aload_n dX2_peek_18 0 rfl rfl ?_
        obtain ⟨v4, g, hD⟩ := bd hD
        refine ew_getR 2 3 dX2_peek_19 rfl (Nat.le_of_ble_eq_true rfl) w_345 in_X2 rfl g ?_
        refine ev_aload_n dX2_peek_22 0 rfl rfl ?_
        obtain ⟨v5, g, hD⟩ := bd hD
        refine ew_getI 2 5 dX2_peek_23 rfl (Nat.le_of_ble_eq_true rfl) w_347 in_X2 rfl g ?_
        obtain ⟨v6, g, hD⟩ := bd hD
        refine ew_iald dX2_peek_26 g ?_
        refine ev_bp dX2_peek_27 rfl ?_
        by_cases c : v6 ≠ 32
        · rw [if_pos c] at hD
          refine ev_icmp_ne_t (tgt := 45) dX2_peek_29 (by decide) c ?_
          cases hD
          exact hk
        · rw [if_neg c] at hD
          refine ev_icmp_ne_f 45 dX2_peek_29 (by decide) c ?_
          refine ev_aload_n dX2_peek_32 0 rfl rfl ?_
          refine ev_dup dX2_peek_33 rfl ?_
          obtain ⟨v7, g, hD⟩ := bd hD
          refine ew_getI 2 5 dX2_peek_34 rfl (Nat.le_of_ble_eq_true rfl) w_347 in_X2 rfl g ?_
          refine ev_iconst dX2_peek_37 (mi_c rfl) ?_
          refine ev_iadd dX2_peek_38 ?_
          obtain ⟨s8, g, hD⟩ := bd hD
          refine ew_putI 2 5 dX2_peek_39 rfl (Nat.le_of_ble_eq_true rfl) w_347 in_X2 tyX2_ok nmX2 (Or.inl rfl) rfl g ?_
          refine ev_goto (tgt := 0) dX2_peek_42 (by decide) ?_
          exact hrec hD hk
def D_X2_peek (x0 : Nat) (σ : mS) : Option (Int × mS) :=
  (gI σ x0 2 1).bind fun v1 =>
  if v1 ≠ 0 then
    D_X2_peek_45 x0 σ
  else
    (gI σ x0 2 5).bind fun v2 =>
    (gI σ x0 2 4).bind fun v3 =>
    if v3 ≤ v2 then
      D_X2_peek_45 x0 σ
    else
      (gR σ x0 2 3).bind fun v4 =>
      (gI σ x0 2 5).bind fun v5 =>
      (lI σ v4 v5).bind fun v6 =>
      if v6 ≠ 32 then
        D_X2_peek_45 x0 σ
      else
        (gI σ x0 2 5).bind fun v7 =>
        (pI σ x0 2 5 (mw (v7 + 1))).bind fun s8 =>
        (D_X2_peek_0 mFU x0 s8).bind fun r9 =>
        D_X2_peek_45 x0 r9
set_option maxRecDepth 100000 in
set_option maxHeartbeats 4000000 in
theorem lk_X2_peek {G : mG} {x0 : Nat} {σ : mS} {R : (Int × mS)} (hD : D_X2_peek x0 σ = some R) : Ev G M_X2_peek 0 [(0, vr x0)] [] σ (.inl (some (vi R.1))) R.2 := by
  unfold D_X2_peek at hD
  refine ev_aload_n dX2_peek_0 0 rfl rfl ?_
  obtain ⟨v1, g, hD⟩ := bd hD
  refine ew_getI 2 1 dX2_peek_1 rfl (Nat.le_of_ble_eq_true rfl) w_341 in_X2 rfl g ?_
  by_cases c : v1 ≠ 0
  · rw [if_pos c] at hD
    refine ev_if_ne_t (tgt := 45) dX2_peek_4 (by decide) c ?_
    exact lk_X2_peek_45 hD
  · rw [if_neg c] at hD
    refine ev_if_ne_f 45 dX2_peek_4 (by decide) c ?_
    refine ev_aload_n dX2_peek_7 0 rfl rfl ?_
    obtain ⟨v2, g, hD⟩ := bd hD
    refine ew_getI 2 5 dX2_peek_8 rfl (Nat.le_of_ble_eq_true rfl) w_347 in_X2 rfl g ?_
    refine ev_aload_n dX2_peek_11 0 rfl rfl ?_
    obtain ⟨v3, g, hD⟩ := bd hD
    refine ew_getI 2 4 dX2_peek_12 rfl (Nat.le_of_ble_eq_true rfl) w_346 in_X2 rfl g ?_
    by_cases c : v3 ≤ v2
    · rw [if_pos c] at hD
      refine ev_icmp_ge_t (tgt := 45) dX2_peek_15 (by decide) c ?_
      exact lk_X2_peek_45 hD
    · rw [if_neg c] at hD
      refine ev_icmp_ge_f 45 dX2_peek_15 (by decide) c ?_
      refine ev_aload_n dX2_peek_18 0 rfl rfl ?_
      obtain ⟨v4, g, hD⟩ := bd hD
      refine ew_getR 2 3 dX2_peek_19 rfl (Nat.le_of_ble_eq_true rfl) w_345 in_X2 rfl g ?_
      refine ev_aload_n dX2_peek_22 0 rfl rfl ?_
      obtain ⟨v5, g, hD⟩ := bd hD
      refine ew_getI 2 5 dX2_peek_23 rfl (Nat.le_of_ble_eq_true rfl) w_347 in_X2 rfl g ?_
      obtain ⟨v6, g, hD⟩ := bd hD
      refine ew_iald dX2_peek_26 g ?_
      refine ev_bp dX2_peek_27 rfl ?_
      by_cases c : v6 ≠ 32
      · rw [if_pos c] at hD
        refine ev_icmp_ne_t (tgt := 45) dX2_peek_29 (by decide) c ?_
        exact lk_X2_peek_45 hD
      · rw [if_neg c] at hD
        refine ev_icmp_ne_f 45 dX2_peek_29 (by decide) c ?_
        refine ev_aload_n dX2_peek_32 0 rfl rfl ?_
        refine ev_dup dX2_peek_33 rfl ?_
        obtain ⟨v7, g, hD⟩ := bd hD
        refine ew_getI 2 5 dX2_peek_34 rfl (Nat.le_of_ble_eq_true rfl) w_347 in_X2 rfl g ?_
        refine ev_iconst dX2_peek_37 (mi_c rfl) ?_
        refine ev_iadd dX2_peek_38 ?_
        obtain ⟨s8, g, hD⟩ := bd hD
        refine ew_putI 2 5 dX2_peek_39 rfl (Nat.le_of_ble_eq_true rfl) w_347 in_X2 tyX2_ok nmX2 (Or.inl rfl) rfl g ?_
        refine ev_goto (tgt := 0) dX2_peek_42 (by decide) ?_
        obtain ⟨r9, g, hD⟩ := bd hD
        refine lk_X2_peek_0 mFU g ?_
        exact lk_X2_peek_45 hD
theorem ct_X2_peek {G : mG} {x0 : Nat} {σ : mS} {R : (Int × mS)} (hD : D_X2_peek x0 σ = some R) : Ct G M_X2_peek [vr x0] σ (.inl (some (vi R.1))) R.2 := ct_of rfl (by decide +kernel) rfl (Nat.le_of_ble_eq_true rfl) rfl (lk_X2_peek hD)
def D_X2_isLetter_17 (y0 : Int) (σ : mS) : Option Int :=
  (bO y0).bind fun v1 =>
  some v1
set_option maxRecDepth 100000 in
set_option maxHeartbeats 4000000 in
theorem lk_X2_isLetter_17 {G : mG} {y0 : Int} {σ : mS} {R : Int} (hD : D_X2_isLetter_17 y0 σ = some R) : Ev G M_X2_isLetter 17 [] [vi y0] σ (.inl (some (vi R))) σ := by
  unfold D_X2_isLetter_17 at hD
  obtain ⟨v1, gb, hD⟩ := bd hD
  cases hD
  exact ew_retb dX2_isLetter_17 rfl gb
def D_X2_isLetter_16 (σ : mS) : Option Int :=
  D_X2_isLetter_17 0 σ
set_option maxRecDepth 100000 in
set_option maxHeartbeats 4000000 in
theorem lk_X2_isLetter_16 {G : mG} {σ : mS} {R : Int} (hD : D_X2_isLetter_16  σ = some R) : Ev G M_X2_isLetter 16 [] [] σ (.inl (some (vi R))) σ := by
  unfold D_X2_isLetter_16 at hD
  refine ev_iconst dX2_isLetter_16 (mi_c rfl) ?_
  exact lk_X2_isLetter_17 hD
def D_X2_isLetter (x0 : Int) (σ : mS) : Option Int :=
  if x0 < 97 then
    D_X2_isLetter_16  σ
  else
    if 122 < x0 then
      D_X2_isLetter_16  σ
    else
      D_X2_isLetter_17 1 σ
set_option maxRecDepth 100000 in
set_option maxHeartbeats 4000000 in
theorem lk_X2_isLetter {G : mG} {x0 : Int} {σ : mS} {R : Int} (hD : D_X2_isLetter x0 σ = some R) : Ev G M_X2_isLetter 0 [(0, vi x0)] [] σ (.inl (some (vi R))) σ := by
  unfold D_X2_isLetter at hD
  refine ev_iload_n dX2_isLetter_0 0 rfl rfl ?_
  refine ev_bp dX2_isLetter_1 rfl ?_
  by_cases c : x0 < 97
  · rw [if_pos c] at hD
    refine ev_icmp_lt_t (tgt := 16) dX2_isLetter_3 (by decide) c ?_
    refine Ev.pick [] rfl ?_
    exact lk_X2_isLetter_16 hD
  · rw [if_neg c] at hD
    refine ev_icmp_lt_f 16 dX2_isLetter_3 (by decide) c ?_
    refine ev_iload_n dX2_isLetter_6 0 rfl rfl ?_
    refine ev_bp dX2_isLetter_7 rfl ?_
    by_cases c : 122 < x0
    · rw [if_pos c] at hD
      refine ev_icmp_gt_t (tgt := 16) dX2_isLetter_9 (by decide) c ?_
      refine Ev.pick [] rfl ?_
      exact lk_X2_isLetter_16 hD
    · rw [if_neg c] at hD
      refine ev_icmp_gt_f 16 dX2_isLetter_9 (by decide) c ?_
      refine ev_iconst dX2_isLetter_12 (mi_c rfl) ?_
      refine ev_goto (tgt := 17) dX2_isLetter_13 (by decide) ?_
      refine Ev.pick [] rfl ?_
      exact lk_X2_isLetter_17 hD
theorem ct_X2_isLetter {G : mG} {x0 : Int} {σ : mS} {R : Int} (hD : D_X2_isLetter x0 σ = some R) : Ct G M_X2_isLetter [vi x0] σ (.inl (some (vi R))) σ := ct_of rfl (by decide +kernel) rfl (Nat.le_of_ble_eq_true rfl) rfl (lk_X2_isLetter hD)
def D_X2_fail_17 (σ : mS) : Option mS :=
  some σ
set_option maxRecDepth 100000 in
set_option maxHeartbeats 4000000 in
theorem lk_X2_fail_17 {G : mG} {σ : mS} {R : mS} (hD : D_X2_fail_17  σ = some R) : Ev G M_X2_fail 17 [] [] σ (.inl none) R := by
  unfold D_X2_fail_17 at hD
  cases hD
  exact ev_ret none dX2_fail_17 True.intro
def D_X2_fail (x0 : Nat) (x1 : Int) (x2 : Int) (σ : mS) : Option mS :=
  (gI σ x0 2 1).bind fun v1 =>
  if v1 ≠ 0 then
    D_X2_fail_17  σ
  else
    (pI σ x0 2 1 x1).bind fun s2 =>
    (pI s2 x0 2 2 x2).bind fun s3 =>
    D_X2_fail_17  s3
set_option maxRecDepth 100000 in
set_option maxHeartbeats 4000000 in
theorem lk_X2_fail {G : mG} {x0 : Nat} {x1 : Int} {x2 : Int} {σ : mS} {R : mS} (hD : D_X2_fail x0 x1 x2 σ = some R) : Ev G M_X2_fail 0 [(0, vr x0), (1, vi x1), (2, vi x2)] [] σ (.inl none) R := by
  unfold D_X2_fail at hD
  refine ev_aload_n dX2_fail_0 0 rfl rfl ?_
  obtain ⟨v1, g, hD⟩ := bd hD
  refine ew_getI 2 1 dX2_fail_1 rfl (Nat.le_of_ble_eq_true rfl) w_341 in_X2 rfl g ?_
  by_cases c : v1 ≠ 0
  · rw [if_pos c] at hD
    refine ev_if_ne_t (tgt := 17) dX2_fail_4 (by decide) c ?_
    refine Ev.pick [] rfl ?_
    exact lk_X2_fail_17 hD
  · rw [if_neg c] at hD
    refine ev_if_ne_f 17 dX2_fail_4 (by decide) c ?_
    refine ev_aload_n dX2_fail_7 0 rfl rfl ?_
    refine ev_iload_n dX2_fail_8 1 rfl rfl ?_
    obtain ⟨s2, g, hD⟩ := bd hD
    refine ew_putI 2 1 dX2_fail_9 rfl (Nat.le_of_ble_eq_true rfl) w_341 in_X2 tyX2_ok nmX2 (Or.inl rfl) rfl g ?_
    refine ev_aload_n dX2_fail_12 0 rfl rfl ?_
    refine ev_iload_n dX2_fail_13 2 rfl rfl ?_
    obtain ⟨s3, g, hD⟩ := bd hD
    refine ew_putI 2 2 dX2_fail_14 rfl (Nat.le_of_ble_eq_true rfl) w_343 in_X2 tyX2_ok nmX2 (Or.inl rfl) rfl g ?_
    refine Ev.pick [] rfl ?_
    exact lk_X2_fail_17 hD
theorem ct_X2_fail {G : mG} {x0 : Nat} {x1 : Int} {x2 : Int} {σ : mS} {R : mS} (hD : D_X2_fail x0 x1 x2 σ = some R) : Ct G M_X2_fail [vr x0, vi x1, vi x2] σ (.inl none) R := ct_of rfl (by decide +kernel) rfl (Nat.le_of_ble_eq_true rfl) rfl (lk_X2_fail hD)
def D_X2_readWord_27 : Nat → Nat → mS → Option mS
  | 0, _, _ => none
  | f + 1, x0, σ =>
    (gI σ x0 2 1).bind fun v1 =>
    if v1 ≠ 0 then
      some σ
    else
      (gI σ x0 2 5).bind fun v2 =>
      (gI σ x0 2 4).bind fun v3 =>
      if v3 ≤ v2 then
        some σ
      else
        (gR σ x0 2 3).bind fun v4 =>
        (gI σ x0 2 5).bind fun v5 =>
        (lI σ v4 v5).bind fun v6 =>
        (D_X2_isLetter v6 σ).bind fun r7 =>
        if r7 = 0 then
          some σ
        else
          (gI σ x0 2 5).bind fun v8 =>
          (pI σ x0 2 5 (mw (v8 + 1))).bind fun s9 =>
          (D_X2_readWord_27 f) x0 s9
set_option maxRecDepth 100000 in
set_option maxHeartbeats 4000000 in
theorem lk_X2_readWord_27 {G : mG} (f : Nat) : ∀ {x0 : Nat} {σ : mS} {R : mS}, D_X2_readWord_27 f x0 σ = some R → ∀ {r : mX} {τ : mS}, Ev G M_X2_readWord 73 [(0, vr x0)] [] R r τ → Ev G M_X2_readWord 27 [(0, vr x0)] [] σ r τ := by
  induction f with
  | zero =>
    intros
    rename_i hD _ _ _
    cases hD
  | succ f ih =>
    intro x0 σ R hD r τ hk
    have hrec := @ih
    rw [D_X2_readWord_27] at hD
    refine ev_aload_n dX2_readWord_27 0 rfl rfl ?_
    obtain ⟨v1, g, hD⟩ := bd hD
    refine ew_getI 2 1 dX2_readWord_28 rfl (Nat.le_of_ble_eq_true rfl) w_341 in_X2 rfl g ?_
    by_cases c : v1 ≠ 0
    · rw [if_pos c] at hD
      refine ev_if_ne_t (tgt := 73) dX2_readWord_31 (by decide) c ?_
      cases hD
      exact hk
    · rw [if_neg c] at hD
      refine ev_if_ne_f 73 dX2_readWord_31 (by decide) c ?_
      refine ev_aload_n dX2_readWord_34 0 rfl rfl ?_
      obtain ⟨v2, g, hD⟩ := bd hD
      refine ew_getI 2 5 dX2_readWord_35 rfl (Nat.le_of_ble_eq_true rfl) w_347 in_X2 rfl g ?_
      refine ev_aload_n dX2_readWord_38 0 rfl rfl ?_
      obtain ⟨v3, g, hD⟩ := bd hD
      refine ew_getI 2 4 dX2_readWord_39 rfl (Nat.le_of_ble_eq_true rfl) w_346 in_X2 rfl g ?_
      by_cases c : v3 ≤ v2
      · rw [if_pos c] at hD
        refine ev_icmp_ge_t (tgt := 73) dX2_readWord_42 (by decide) c ?_
        cases hD
        exact hk
      · rw [if_neg c] at hD
        refine ev_icmp_ge_f 73 dX2_readWord_42 (by decide) c ?_
        refine ev_aload_n dX2_readWord_45 0 rfl rfl ?_
        obtain ⟨v4, g, hD⟩ := bd hD
        refine ew_getR 2 3 dX2_readWord_46 rfl (Nat.le_of_ble_eq_true rfl) w_345 in_X2 rfl g ?_
        refine ev_aload_n dX2_readWord_49 0 rfl rfl ?_
        obtain ⟨v5, g, hD⟩ := bd hD
        refine ew_getI 2 5 dX2_readWord_50 rfl (Nat.le_of_ble_eq_true rfl) w_347 in_X2 rfl g ?_
        obtain ⟨v6, g, hD⟩ := bd hD
        refine ew_iald dX2_readWord_53 g ?_
        obtain ⟨r7, g, hD⟩ := bd hD
        refine ew_callSv (as := [vi v6]) (rest := []) dX2_readWord_54 v_X2_isLetter w_801 rfl (Nat.le_of_ble_eq_true rfl) (Nat.le_of_ble_eq_true rfl) (Nat.le_of_ble_eq_true rfl) (ct_X2_isLetter g) ?_
        by_cases c : r7 = 0
        · rw [if_pos c] at hD
          refine ev_if_eq_t (tgt := 73) dX2_readWord_57 (by decide) c ?_
          cases hD
          exact hk
        · rw [if_neg c] at hD
          refine ev_if_eq_f 73 dX2_readWord_57 (by decide) c ?_
          refine ev_aload_n dX2_readWord_60 0 rfl rfl ?_
          refine ev_dup dX2_readWord_61 rfl ?_
          obtain ⟨v8, g, hD⟩ := bd hD
          refine ew_getI 2 5 dX2_readWord_62 rfl (Nat.le_of_ble_eq_true rfl) w_347 in_X2 rfl g ?_
          refine ev_iconst dX2_readWord_65 (mi_c rfl) ?_
          refine ev_iadd dX2_readWord_66 ?_
          obtain ⟨s9, g, hD⟩ := bd hD
          refine ew_putI 2 5 dX2_readWord_67 rfl (Nat.le_of_ble_eq_true rfl) w_347 in_X2 tyX2_ok nmX2 (Or.inl rfl) rfl g ?_
          refine ev_goto (tgt := 27) dX2_readWord_70 (by decide) ?_
          exact hrec hD hk
def D_X2_readWord_73 (x0 : Nat) (σ : mS) : Option mS :=
  (gI σ x0 2 5).bind fun v1 =>
  (pI σ x0 2 7 v1).bind fun s2 =>
  some s2
set_option maxRecDepth 100000 in
set_option maxHeartbeats 4000000 in
theorem lk_X2_readWord_73 {G : mG} {x0 : Nat} {σ : mS} {R : mS} (hD : D_X2_readWord_73 x0 σ = some R) : Ev G M_X2_readWord 73 [(0, vr x0)] [] σ (.inl none) R := by
  unfold D_X2_readWord_73 at hD
  refine ev_aload_n dX2_readWord_73 0 rfl rfl ?_
  refine ev_aload_n dX2_readWord_74 0 rfl rfl ?_
  obtain ⟨v1, g, hD⟩ := bd hD
  refine ew_getI 2 5 dX2_readWord_75 rfl (Nat.le_of_ble_eq_true rfl) w_347 in_X2 rfl g ?_
  obtain ⟨s2, g, hD⟩ := bd hD
  refine ew_putI 2 7 dX2_readWord_78 rfl (Nat.le_of_ble_eq_true rfl) w_349 in_X2 tyX2_ok nmX2 (Or.inl rfl) rfl g ?_
  cases hD
  exact ev_ret none dX2_readWord_81 True.intro
def D_X2_readWord_19 (x0 : Nat) (σ : mS) : Option mS :=
  (gI σ x0 2 5).bind fun v1 =>
  (pI σ x0 2 6 v1).bind fun s2 =>
  (D_X2_readWord_27 mFU x0 s2).bind fun r3 =>
  D_X2_readWord_73 x0 r3
set_option maxRecDepth 100000 in
set_option maxHeartbeats 4000000 in
theorem lk_X2_readWord_19 {G : mG} {x0 : Nat} {σ : mS} {R : mS} (hD : D_X2_readWord_19 x0 σ = some R) : Ev G M_X2_readWord 19 [(0, vr x0)] [] σ (.inl none) R := by
  unfold D_X2_readWord_19 at hD
  refine ev_aload_n dX2_readWord_19 0 rfl rfl ?_
  refine ev_aload_n dX2_readWord_20 0 rfl rfl ?_
  obtain ⟨v1, g, hD⟩ := bd hD
  refine ew_getI 2 5 dX2_readWord_21 rfl (Nat.le_of_ble_eq_true rfl) w_347 in_X2 rfl g ?_
  obtain ⟨s2, g, hD⟩ := bd hD
  refine ew_putI 2 6 dX2_readWord_24 rfl (Nat.le_of_ble_eq_true rfl) w_348 in_X2 tyX2_ok nmX2 (Or.inl rfl) rfl g ?_
  obtain ⟨r3, g, hD⟩ := bd hD
  refine lk_X2_readWord_27 mFU g ?_
  exact lk_X2_readWord_73 hD
def D_X2_readWord (x0 : Nat) (σ : mS) : Option mS :=
  (tgO σ x0 2).bind fun _ =>
  (D_X2_peek x0 σ).bind fun r1 =>
  (D_X2_isLetter r1.1 r1.2).bind fun r2 =>
  if r2 ≠ 0 then
    D_X2_readWord_19 x0 r1.2
  else
    (gI r1.2 x0 2 5).bind fun v3 =>
    (tgO r1.2 x0 2).bind fun _ =>
    (D_X2_fail x0 1 v3 r1.2).bind fun r4 =>
    D_X2_readWord_19 x0 r4
set_option maxRecDepth 100000 in
set_option maxHeartbeats 4000000 in
theorem lk_X2_readWord {G : mG} {x0 : Nat} {σ : mS} {R : mS} (hD : D_X2_readWord x0 σ = some R) : Ev G M_X2_readWord 0 [(0, vr x0)] [] σ (.inl none) R := by
  unfold D_X2_readWord at hD
  refine ev_aload_n dX2_readWord_0 0 rfl rfl ?_
  obtain ⟨_, g0, hD⟩ := bd hD
  obtain ⟨r1, g, hD⟩ := bd hD
  refine ew_callVv (as := []) (a := x0) (rest := []) dX2_readWord_1 v_X2_peek w_797 rfl (Nat.le_of_ble_eq_true rfl) rfl rfl g0 (Nat.le_of_ble_eq_true rfl) (Nat.le_of_ble_eq_true rfl) (ct_X2_peek g) ?_
  obtain ⟨r2, g, hD⟩ := bd hD
  refine ew_callSv (as := [vi r1.1]) (rest := []) dX2_readWord_4 v_X2_isLetter w_801 rfl (Nat.le_of_ble_eq_true rfl) (Nat.le_of_ble_eq_true rfl) (Nat.le_of_ble_eq_true rfl) (ct_X2_isLetter g) ?_
  by_cases c : r2 ≠ 0
  · rw [if_pos c] at hD
    refine ev_if_ne_t (tgt := 19) dX2_readWord_7 (by decide) c ?_
    exact lk_X2_readWord_19 hD
  · rw [if_neg c] at hD
    refine ev_if_ne_f 19 dX2_readWord_7 (by decide) c ?_
    refine ev_aload_n dX2_readWord_10 0 rfl rfl ?_
    refine ev_iconst dX2_readWord_11 (mi_c rfl) ?_
    refine ev_aload_n dX2_readWord_12 0 rfl rfl ?_
    obtain ⟨v3, g, hD⟩ := bd hD
    refine ew_getI 2 5 dX2_readWord_13 rfl (Nat.le_of_ble_eq_true rfl) w_347 in_X2 rfl g ?_
    obtain ⟨_, g0, hD⟩ := bd hD
    obtain ⟨r4, g, hD⟩ := bd hD
    refine ew_callV0 (as := [vi 1, vi v3]) (a := x0) (rest := []) dX2_readWord_16 v_X2_fail w_804 rfl (Nat.le_of_ble_eq_true rfl) rfl rfl g0 (Nat.le_of_ble_eq_true rfl) (Nat.le_of_ble_eq_true rfl) (ct_X2_fail g) ?_
    exact lk_X2_readWord_19 hD
theorem ct_X2_readWord {G : mG} {x0 : Nat} {σ : mS} {R : mS} (hD : D_X2_readWord x0 σ = some R) : Ct G M_X2_readWord [vr x0] σ (.inl none) R := ct_of rfl (by decide +kernel) rfl (Nat.le_of_ble_eq_true rfl) rfl (lk_X2_readWord hD)
def D_X2_wordIs_20 : Nat → Nat → Nat → Int → mS → Option (Unit ⊕ Int)
  | 0, _, _, _, _ => none
  | f + 1, x0, x1, x2, σ =>
    (sLn x1).bind fun v1 =>
    if v1 ≤ x2 then
      some (Sum.inl ())
    else
      (gR σ x0 2 3).bind fun v2 =>
      (gI σ x0 2 6).bind fun v3 =>
      (lI σ v2 (mw (v3 + x2))).bind fun v4 =>
      (sCh x1 x2).bind fun v5 =>
      if v4 = v5 then
        (D_X2_wordIs_20 f) x0 x1 (mw (x2 + 1)) σ
      else
        (bO 0).bind fun v6 =>
        some (Sum.inr v6)
set_option maxRecDepth 100000 in
set_option maxHeartbeats 4000000 in
theorem lk_X2_wordIs_20 {G : mG} (f : Nat) : ∀ {x0 : Nat} {x1 : Nat} {x2 : Int} {σ : mS} {R : (Unit ⊕ Int)}, D_X2_wordIs_20 f x0 x1 x2 σ = some R → ∀ {r : mX} {τ : mS}, (∀ z, R = (Sum.inl z) → Ev G M_X2_wordIs 55 [] [] σ r τ) ∧ (∀ z, R = (Sum.inr z) → r = .inl (some (vi z)) ∧ τ = σ) → Ev G M_X2_wordIs 20 [(0, vr x0), (1, vr x1), (2, vi x2)] [] σ r τ := by
  induction f with
  | zero =>
    intros
    rename_i hD _ _ _
    cases hD
  | succ f ih =>
    intro x0 x1 x2 σ R hD r τ hk
    have hrec := @ih
    rw [D_X2_wordIs_20] at hD
    refine ev_iload_n dX2_wordIs_20 2 rfl rfl ?_
    refine ev_aload_n dX2_wordIs_21 1 rfl rfl ?_
    obtain ⟨v1, g, hD⟩ := bd hD
    refine ew_slen dX2_wordIs_22 ml_X2_222 g (Nat.le_of_ble_eq_true rfl) (Nat.le_of_ble_eq_true rfl) (Nat.le_of_ble_eq_true rfl) ?_
    by_cases c : v1 ≤ x2
    · rw [if_pos c] at hD
      refine ev_icmp_ge_t (tgt := 55) dX2_wordIs_25 (by decide) c ?_
      cases hD
      refine Ev.pick [] rfl ?_
      exact hk.1 _ rfl
    · rw [if_neg c] at hD
      refine ev_icmp_ge_f 55 dX2_wordIs_25 (by decide) c ?_
      refine ev_aload_n dX2_wordIs_28 0 rfl rfl ?_
      obtain ⟨v2, g, hD⟩ := bd hD
      refine ew_getR 2 3 dX2_wordIs_29 rfl (Nat.le_of_ble_eq_true rfl) w_345 in_X2 rfl g ?_
      refine ev_aload_n dX2_wordIs_32 0 rfl rfl ?_
      obtain ⟨v3, g, hD⟩ := bd hD
      refine ew_getI 2 6 dX2_wordIs_33 rfl (Nat.le_of_ble_eq_true rfl) w_348 in_X2 rfl g ?_
      refine ev_iload_n dX2_wordIs_36 2 rfl rfl ?_
      refine ev_iadd dX2_wordIs_37 ?_
      obtain ⟨v4, g, hD⟩ := bd hD
      refine ew_iald dX2_wordIs_38 g ?_
      refine ev_aload_n dX2_wordIs_39 1 rfl rfl ?_
      refine ev_iload_n dX2_wordIs_40 2 rfl rfl ?_
      obtain ⟨v5, g, hD⟩ := bd hD
      refine ew_schar dX2_wordIs_41 ml_X2_226 g (Nat.le_of_ble_eq_true rfl) (Nat.le_of_ble_eq_true rfl) (Nat.le_of_ble_eq_true rfl) ?_
      by_cases c : v4 = v5
      · rw [if_pos c] at hD
        refine ev_icmp_eq_t (tgt := 49) dX2_wordIs_44 (by decide) c ?_
        refine ev_iinc dX2_wordIs_49 2 rfl (Nat.le_of_ble_eq_true rfl) rfl ?_
        refine ev_goto (tgt := 20) dX2_wordIs_52 (by decide) ?_
        refine Ev.pick [1, 2, 0] rfl ?_
        exact hrec hD hk
      · rw [if_neg c] at hD
        refine ev_icmp_eq_f 49 dX2_wordIs_44 (by decide) c ?_
        refine ev_iconst dX2_wordIs_47 (mi_c rfl) ?_
        obtain ⟨v6, gb, hD⟩ := bd hD
        cases hD
        obtain ⟨rfl, rfl⟩ := hk.2 _ rfl
        exact ew_retb dX2_wordIs_48 rfl gb
def D_X2_wordIs (x0 : Nat) (x1 : Nat) (σ : mS) : Option Int :=
  (sLn x1).bind fun v1 =>
  (gI σ x0 2 7).bind fun v2 =>
  (gI σ x0 2 6).bind fun v3 =>
  if v1 = (mw (v2 - v3)) then
    (D_X2_wordIs_20 mFU x0 x1 0 σ).bind fun r4 =>
    match r4 with
    | (Sum.inl z5) =>
      (bO 1).bind fun v6 =>
      some v6
    | (Sum.inr z7) =>
      some z7
  else
    (bO 0).bind fun v8 =>
    some v8
set_option maxRecDepth 100000 in
set_option maxHeartbeats 4000000 in
theorem lk_X2_wordIs {G : mG} {x0 : Nat} {x1 : Nat} {σ : mS} {R : Int} (hD : D_X2_wordIs x0 x1 σ = some R) : Ev G M_X2_wordIs 0 [(0, vr x0), (1, vr x1)] [] σ (.inl (some (vi R))) σ := by
  unfold D_X2_wordIs at hD
  refine ev_aload_n dX2_wordIs_0 1 rfl rfl ?_
  obtain ⟨v1, g, hD⟩ := bd hD
  refine ew_slen dX2_wordIs_1 ml_X2_222 g (Nat.le_of_ble_eq_true rfl) (Nat.le_of_ble_eq_true rfl) (Nat.le_of_ble_eq_true rfl) ?_
  refine ev_aload_n dX2_wordIs_4 0 rfl rfl ?_
  obtain ⟨v2, g, hD⟩ := bd hD
  refine ew_getI 2 7 dX2_wordIs_5 rfl (Nat.le_of_ble_eq_true rfl) w_349 in_X2 rfl g ?_
  refine ev_aload_n dX2_wordIs_8 0 rfl rfl ?_
  obtain ⟨v3, g, hD⟩ := bd hD
  refine ew_getI 2 6 dX2_wordIs_9 rfl (Nat.le_of_ble_eq_true rfl) w_348 in_X2 rfl g ?_
  refine ev_isub dX2_wordIs_12 ?_
  by_cases c : v1 = (mw (v2 - v3))
  · rw [if_pos c] at hD
    refine ev_icmp_eq_t (tgt := 18) dX2_wordIs_13 (by decide) c ?_
    refine ev_iconst dX2_wordIs_18 (mi_c rfl) ?_
    refine ev_istore_n dX2_wordIs_19 rfl (Nat.le_of_ble_eq_true rfl) rfl ?_
    obtain ⟨r4, g, hD⟩ := bd hD
    refine Ev.pick [1, 2, 0] rfl ?_
    rcases r4 with z5 | z7
    · refine lk_X2_wordIs_20 mFU g ⟨(fun _ hz => ?_), (fun _ hz => nomatch hz)⟩
      cases hz
      refine ev_iconst dX2_wordIs_55 (mi_c rfl) ?_
      obtain ⟨v6, gb, hD⟩ := bd hD
      cases hD
      exact ew_retb dX2_wordIs_56 rfl gb
    · refine lk_X2_wordIs_20 mFU g ⟨(fun _ hz => nomatch hz), (fun _ hz => ?_)⟩
      cases hz
      cases hD
      exact ⟨rfl, rfl⟩
  · rw [if_neg c] at hD
    refine ev_icmp_eq_f 18 dX2_wordIs_13 (by decide) c ?_
    refine ev_iconst dX2_wordIs_16 (mi_c rfl) ?_
    obtain ⟨v8, gb, hD⟩ := bd hD
    cases hD
    exact ew_retb dX2_wordIs_17 rfl gb
theorem ct_X2_wordIs {G : mG} {x0 : Nat} {x1 : Nat} {σ : mS} {R : Int} (hD : D_X2_wordIs x0 x1 σ = some R) : Ct G M_X2_wordIs [vr x0, vr x1] σ (.inl (some (vi R))) σ := ct_of rfl (by decide +kernel) rfl (Nat.le_of_ble_eq_true rfl) rfl (lk_X2_wordIs hD)
def D_X2_keyword_141 (y0 : Int) (σ : mS) : Option Int :=
  some y0
set_option maxRecDepth 100000 in
set_option maxHeartbeats 4000000 in
theorem lk_X2_keyword_141 {G : mG} {y0 : Int} {σ : mS} {R : Int} (hD : D_X2_keyword_141 y0 σ = some R) : Ev G M_X2_keyword 141 [] [vi y0] σ (.inl (some (vi R))) σ := by
  unfold D_X2_keyword_141 at hD
  cases hD
  exact ev_ret (some (vi _)) dX2_keyword_141 True.intro
def D_X2_keyword (x0 : Nat) (σ : mS) : Option Int :=
  (tgO σ x0 2).bind fun _ =>
  (D_X2_wordIs x0 (2 + 0) σ).bind fun r1 =>
  if r1 = 0 then
    (tgO σ x0 2).bind fun _ =>
    (D_X2_wordIs x0 (2 + 1) σ).bind fun r2 =>
    if r2 = 0 then
      (tgO σ x0 2).bind fun _ =>
      (D_X2_wordIs x0 (2 + 2) σ).bind fun r3 =>
      if r3 = 0 then
        (tgO σ x0 2).bind fun _ =>
        (D_X2_wordIs x0 (2 + 3) σ).bind fun r4 =>
        if r4 = 0 then
          (tgO σ x0 2).bind fun _ =>
          (D_X2_wordIs x0 (2 + 4) σ).bind fun r5 =>
          if r5 = 0 then
            (tgO σ x0 2).bind fun _ =>
            (D_X2_wordIs x0 (2 + 5) σ).bind fun r6 =>
            if r6 = 0 then
              (tgO σ x0 2).bind fun _ =>
              (D_X2_wordIs x0 (2 + 6) σ).bind fun r7 =>
              if r7 = 0 then
                (tgO σ x0 2).bind fun _ =>
                (D_X2_wordIs x0 (2 + 7) σ).bind fun r8 =>
                if r8 = 0 then
                  (tgO σ x0 2).bind fun _ =>
                  (D_X2_wordIs x0 (2 + 8) σ).bind fun r9 =>
                  if r9 = 0 then
                    (tgO σ x0 2).bind fun _ =>
                    (D_X2_wordIs x0 (2 + 9) σ).bind fun r10 =>
                    if r10 = 0 then
                      (tgO σ x0 2).bind fun _ =>
                      (D_X2_wordIs x0 (2 + 10) σ).bind fun r11 =>
                      if r11 = 0 then
                        (tgO σ x0 2).bind fun _ =>
                        (D_X2_wordIs x0 (2 + 11) σ).bind fun r12 =>
                        if r12 = 0 then
                          D_X2_keyword_141 ((-1)) σ
                        else
                          D_X2_keyword_141 11 σ
                      else
                        some 10
                    else
                      some 9
                  else
                    some 8
                else
                  some 7
              else
                some 6
            else
              some 5
          else
            some 4
        else
          some 3
      else
        some 2
    else
      some 1
  else
    some 0
set_option maxRecDepth 100000 in
set_option maxHeartbeats 4000000 in
theorem lk_X2_keyword {G : mG} {x0 : Nat} {σ : mS} {R : Int} (hD : D_X2_keyword x0 σ = some R) : Ev G M_X2_keyword 0 [(0, vr x0)] [] σ (.inl (some (vi R))) σ := by
  unfold D_X2_keyword at hD
  refine ev_aload_n dX2_keyword_0 0 rfl rfl ?_
  refine ew_lds 0 dX2_keyword_1 rfl lds_X2_97 ?_
  obtain ⟨_, g0, hD⟩ := bd hD
  obtain ⟨r1, g, hD⟩ := bd hD
  refine ew_callVv (as := [vr (2 + 0)]) (a := x0) (rest := []) dX2_keyword_3 v_X2_wordIs w_813 rfl (Nat.le_of_ble_eq_true rfl) rfl rfl g0 (Nat.le_of_ble_eq_true rfl) (Nat.le_of_ble_eq_true rfl) (ct_X2_wordIs g) ?_
  by_cases c : r1 = 0
  · rw [if_pos c] at hD
    refine ev_if_eq_t (tgt := 11) dX2_keyword_6 (by decide) c ?_
    refine ev_aload_n dX2_keyword_11 0 rfl rfl ?_
    refine ew_lds 1 dX2_keyword_12 rfl lds_X2_103 ?_
    obtain ⟨_, g0, hD⟩ := bd hD
    obtain ⟨r2, g, hD⟩ := bd hD
    refine ew_callVv (as := [vr (2 + 1)]) (a := x0) (rest := []) dX2_keyword_14 v_X2_wordIs w_813 rfl (Nat.le_of_ble_eq_true rfl) rfl rfl g0 (Nat.le_of_ble_eq_true rfl) (Nat.le_of_ble_eq_true rfl) (ct_X2_wordIs g) ?_
    by_cases c : r2 = 0
    · rw [if_pos c] at hD
      refine ev_if_eq_t (tgt := 22) dX2_keyword_17 (by decide) c ?_
      refine ev_aload_n dX2_keyword_22 0 rfl rfl ?_
      refine ew_lds 2 dX2_keyword_23 rfl lds_X2_105 ?_
      obtain ⟨_, g0, hD⟩ := bd hD
      obtain ⟨r3, g, hD⟩ := bd hD
      refine ew_callVv (as := [vr (2 + 2)]) (a := x0) (rest := []) dX2_keyword_25 v_X2_wordIs w_813 rfl (Nat.le_of_ble_eq_true rfl) rfl rfl g0 (Nat.le_of_ble_eq_true rfl) (Nat.le_of_ble_eq_true rfl) (ct_X2_wordIs g) ?_
      by_cases c : r3 = 0
      · rw [if_pos c] at hD
        refine ev_if_eq_t (tgt := 33) dX2_keyword_28 (by decide) c ?_
        refine ev_aload_n dX2_keyword_33 0 rfl rfl ?_
        refine ew_lds 3 dX2_keyword_34 rfl lds_X2_107 ?_
        obtain ⟨_, g0, hD⟩ := bd hD
        obtain ⟨r4, g, hD⟩ := bd hD
        refine ew_callVv (as := [vr (2 + 3)]) (a := x0) (rest := []) dX2_keyword_36 v_X2_wordIs w_813 rfl (Nat.le_of_ble_eq_true rfl) rfl rfl g0 (Nat.le_of_ble_eq_true rfl) (Nat.le_of_ble_eq_true rfl) (ct_X2_wordIs g) ?_
        by_cases c : r4 = 0
        · rw [if_pos c] at hD
          refine ev_if_eq_t (tgt := 44) dX2_keyword_39 (by decide) c ?_
          refine ev_aload_n dX2_keyword_44 0 rfl rfl ?_
          refine ew_lds 4 dX2_keyword_45 rfl lds_X2_109 ?_
          obtain ⟨_, g0, hD⟩ := bd hD
          obtain ⟨r5, g, hD⟩ := bd hD
          refine ew_callVv (as := [vr (2 + 4)]) (a := x0) (rest := []) dX2_keyword_47 v_X2_wordIs w_813 rfl (Nat.le_of_ble_eq_true rfl) rfl rfl g0 (Nat.le_of_ble_eq_true rfl) (Nat.le_of_ble_eq_true rfl) (ct_X2_wordIs g) ?_
          by_cases c : r5 = 0
          · rw [if_pos c] at hD
            refine ev_if_eq_t (tgt := 55) dX2_keyword_50 (by decide) c ?_
            refine ev_aload_n dX2_keyword_55 0 rfl rfl ?_
            refine ew_lds 5 dX2_keyword_56 rfl lds_X2_111 ?_
            obtain ⟨_, g0, hD⟩ := bd hD
            obtain ⟨r6, g, hD⟩ := bd hD
            refine ew_callVv (as := [vr (2 + 5)]) (a := x0) (rest := []) dX2_keyword_58 v_X2_wordIs w_813 rfl (Nat.le_of_ble_eq_true rfl) rfl rfl g0 (Nat.le_of_ble_eq_true rfl) (Nat.le_of_ble_eq_true rfl) (ct_X2_wordIs g) ?_
            by_cases c : r6 = 0
            · rw [if_pos c] at hD
              refine ev_if_eq_t (tgt := 66) dX2_keyword_61 (by decide) c ?_
              refine ev_aload_n dX2_keyword_66 0 rfl rfl ?_
              refine ew_lds 6 dX2_keyword_67 rfl lds_X2_113 ?_
              obtain ⟨_, g0, hD⟩ := bd hD
              obtain ⟨r7, g, hD⟩ := bd hD
              refine ew_callVv (as := [vr (2 + 6)]) (a := x0) (rest := []) dX2_keyword_69 v_X2_wordIs w_813 rfl (Nat.le_of_ble_eq_true rfl) rfl rfl g0 (Nat.le_of_ble_eq_true rfl) (Nat.le_of_ble_eq_true rfl) (ct_X2_wordIs g) ?_
              by_cases c : r7 = 0
              · rw [if_pos c] at hD
                refine ev_if_eq_t (tgt := 78) dX2_keyword_72 (by decide) c ?_
                refine ev_aload_n dX2_keyword_78 0 rfl rfl ?_
                refine ew_lds 7 dX2_keyword_79 rfl lds_X2_115 ?_
                obtain ⟨_, g0, hD⟩ := bd hD
                obtain ⟨r8, g, hD⟩ := bd hD
                refine ew_callVv (as := [vr (2 + 7)]) (a := x0) (rest := []) dX2_keyword_81 v_X2_wordIs w_813 rfl (Nat.le_of_ble_eq_true rfl) rfl rfl g0 (Nat.le_of_ble_eq_true rfl) (Nat.le_of_ble_eq_true rfl) (ct_X2_wordIs g) ?_
                by_cases c : r8 = 0
                · rw [if_pos c] at hD
                  refine ev_if_eq_t (tgt := 90) dX2_keyword_84 (by decide) c ?_
                  refine ev_aload_n dX2_keyword_90 0 rfl rfl ?_
                  refine ew_lds 8 dX2_keyword_91 rfl lds_X2_117 ?_
                  obtain ⟨_, g0, hD⟩ := bd hD
                  obtain ⟨r9, g, hD⟩ := bd hD
                  refine ew_callVv (as := [vr (2 + 8)]) (a := x0) (rest := []) dX2_keyword_93 v_X2_wordIs w_813 rfl (Nat.le_of_ble_eq_true rfl) rfl rfl g0 (Nat.le_of_ble_eq_true rfl) (Nat.le_of_ble_eq_true rfl) (ct_X2_wordIs g) ?_
                  by_cases c : r9 = 0
                  · rw [if_pos c] at hD
                    refine ev_if_eq_t (tgt := 102) dX2_keyword_96 (by decide) c ?_
                    refine ev_aload_n dX2_keyword_102 0 rfl rfl ?_
                    refine ew_lds 9 dX2_keyword_103 rfl lds_X2_119 ?_
                    obtain ⟨_, g0, hD⟩ := bd hD
                    obtain ⟨r10, g, hD⟩ := bd hD
                    refine ew_callVv (as := [vr (2 + 9)]) (a := x0) (rest := []) dX2_keyword_105 v_X2_wordIs w_813 rfl (Nat.le_of_ble_eq_true rfl) rfl rfl g0 (Nat.le_of_ble_eq_true rfl) (Nat.le_of_ble_eq_true rfl) (ct_X2_wordIs g) ?_
                    by_cases c : r10 = 0
                    · rw [if_pos c] at hD
                      refine ev_if_eq_t (tgt := 114) dX2_keyword_108 (by decide) c ?_
                      refine ev_aload_n dX2_keyword_114 0 rfl rfl ?_
                      refine ew_lds 10 dX2_keyword_115 rfl lds_X2_121 ?_
                      obtain ⟨_, g0, hD⟩ := bd hD
                      obtain ⟨r11, g, hD⟩ := bd hD
                      refine ew_callVv (as := [vr (2 + 10)]) (a := x0) (rest := []) dX2_keyword_117 v_X2_wordIs w_813 rfl (Nat.le_of_ble_eq_true rfl) rfl rfl g0 (Nat.le_of_ble_eq_true rfl) (Nat.le_of_ble_eq_true rfl) (ct_X2_wordIs g) ?_
                      by_cases c : r11 = 0
                      · rw [if_pos c] at hD
                        refine ev_if_eq_t (tgt := 126) dX2_keyword_120 (by decide) c ?_
                        refine ev_aload_n dX2_keyword_126 0 rfl rfl ?_
                        refine ew_lds 11 dX2_keyword_127 rfl lds_X2_123 ?_
                        obtain ⟨_, g0, hD⟩ := bd hD
                        obtain ⟨r12, g, hD⟩ := bd hD
                        refine ew_callVv (as := [vr (2 + 11)]) (a := x0) (rest := []) dX2_keyword_129 v_X2_wordIs w_813 rfl (Nat.le_of_ble_eq_true rfl) rfl rfl g0 (Nat.le_of_ble_eq_true rfl) (Nat.le_of_ble_eq_true rfl) (ct_X2_wordIs g) ?_
                        by_cases c : r12 = 0
                        · rw [if_pos c] at hD
                          refine ev_if_eq_t (tgt := 140) dX2_keyword_132 (by decide) c ?_
                          refine ev_iconst dX2_keyword_140 (mi_c rfl) ?_
                          refine Ev.pick [] rfl ?_
                          exact lk_X2_keyword_141 hD
                        · rw [if_neg c] at hD
                          refine ev_if_eq_f 140 dX2_keyword_132 (by decide) c ?_
                          refine ev_bp dX2_keyword_135 rfl ?_
                          refine ev_goto (tgt := 141) dX2_keyword_137 (by decide) ?_
                          refine Ev.pick [] rfl ?_
                          exact lk_X2_keyword_141 hD
                      · rw [if_neg c] at hD
                        refine ev_if_eq_f 126 dX2_keyword_120 (by decide) c ?_
                        refine ev_bp dX2_keyword_123 rfl ?_
                        cases hD
                        exact ev_ret (some (vi _)) dX2_keyword_125 True.intro
                    · rw [if_neg c] at hD
                      refine ev_if_eq_f 114 dX2_keyword_108 (by decide) c ?_
                      refine ev_bp dX2_keyword_111 rfl ?_
                      cases hD
                      exact ev_ret (some (vi _)) dX2_keyword_113 True.intro
                  · rw [if_neg c] at hD
                    refine ev_if_eq_f 102 dX2_keyword_96 (by decide) c ?_
                    refine ev_bp dX2_keyword_99 rfl ?_
                    cases hD
                    exact ev_ret (some (vi _)) dX2_keyword_101 True.intro
                · rw [if_neg c] at hD
                  refine ev_if_eq_f 90 dX2_keyword_84 (by decide) c ?_
                  refine ev_bp dX2_keyword_87 rfl ?_
                  cases hD
                  exact ev_ret (some (vi _)) dX2_keyword_89 True.intro
              · rw [if_neg c] at hD
                refine ev_if_eq_f 78 dX2_keyword_72 (by decide) c ?_
                refine ev_bp dX2_keyword_75 rfl ?_
                cases hD
                exact ev_ret (some (vi _)) dX2_keyword_77 True.intro
            · rw [if_neg c] at hD
              refine ev_if_eq_f 66 dX2_keyword_61 (by decide) c ?_
              refine ev_iconst dX2_keyword_64 (mi_c rfl) ?_
              cases hD
              exact ev_ret (some (vi _)) dX2_keyword_65 True.intro
          · rw [if_neg c] at hD
            refine ev_if_eq_f 55 dX2_keyword_50 (by decide) c ?_
            refine ev_iconst dX2_keyword_53 (mi_c rfl) ?_
            cases hD
            exact ev_ret (some (vi _)) dX2_keyword_54 True.intro
        · rw [if_neg c] at hD
          refine ev_if_eq_f 44 dX2_keyword_39 (by decide) c ?_
          refine ev_iconst dX2_keyword_42 (mi_c rfl) ?_
          cases hD
          exact ev_ret (some (vi _)) dX2_keyword_43 True.intro
      · rw [if_neg c] at hD
        refine ev_if_eq_f 33 dX2_keyword_28 (by decide) c ?_
        refine ev_iconst dX2_keyword_31 (mi_c rfl) ?_
        cases hD
        exact ev_ret (some (vi _)) dX2_keyword_32 True.intro
    · rw [if_neg c] at hD
      refine ev_if_eq_f 22 dX2_keyword_17 (by decide) c ?_
      refine ev_iconst dX2_keyword_20 (mi_c rfl) ?_
      cases hD
      exact ev_ret (some (vi _)) dX2_keyword_21 True.intro
  · rw [if_neg c] at hD
    refine ev_if_eq_f 11 dX2_keyword_6 (by decide) c ?_
    refine ev_iconst dX2_keyword_9 (mi_c rfl) ?_
    cases hD
    exact ev_ret (some (vi _)) dX2_keyword_10 True.intro
theorem ct_X2_keyword {G : mG} {x0 : Nat} {σ : mS} {R : Int} (hD : D_X2_keyword x0 σ = some R) : Ct G M_X2_keyword [vr x0] σ (.inl (some (vi R))) σ := ct_of rfl (by decide +kernel) rfl (Nat.le_of_ble_eq_true rfl) rfl (lk_X2_keyword hD)
def D_X2_readSign_37 (σ : mS) : Option mS :=
  some σ
set_option maxRecDepth 100000 in
set_option maxHeartbeats 4000000 in
theorem lk_X2_readSign_37 {G : mG} {σ : mS} {R : mS} (hD : D_X2_readSign_37  σ = some R) : Ev G M_X2_readSign 37 [] [] σ (.inl none) R := by
  unfold D_X2_readSign_37 at hD
  cases hD
  exact ev_ret none dX2_readSign_37 True.intro
def D_X2_readSign (x0 : Nat) (x1 : Int) (σ : mS) : Option mS :=
  (tgO σ x0 2).bind fun _ =>
  (D_X2_peek x0 σ).bind fun r1 =>
  if r1.1 = x1 then
    (gI r1.2 x0 2 1).bind fun v2 =>
    if v2 ≠ 0 then
      D_X2_readSign_37  r1.2
    else
      (gI r1.2 x0 2 5).bind fun v3 =>
      (pI r1.2 x0 2 5 (mw (v3 + 1))).bind fun s4 =>
      D_X2_readSign_37  s4
  else
    (gI r1.2 x0 2 5).bind fun v5 =>
    (tgO r1.2 x0 2).bind fun _ =>
    (D_X2_fail x0 1 v5 r1.2).bind fun r6 =>
    D_X2_readSign_37  r6
set_option maxRecDepth 100000 in
set_option maxHeartbeats 4000000 in
theorem lk_X2_readSign {G : mG} {x0 : Nat} {x1 : Int} {σ : mS} {R : mS} (hD : D_X2_readSign x0 x1 σ = some R) : Ev G M_X2_readSign 0 [(0, vr x0), (1, vi x1)] [] σ (.inl none) R := by
  unfold D_X2_readSign at hD
  refine ev_aload_n dX2_readSign_0 0 rfl rfl ?_
  obtain ⟨_, g0, hD⟩ := bd hD
  obtain ⟨r1, g, hD⟩ := bd hD
  refine ew_callVv (as := []) (a := x0) (rest := []) dX2_readSign_1 v_X2_peek w_797 rfl (Nat.le_of_ble_eq_true rfl) rfl rfl g0 (Nat.le_of_ble_eq_true rfl) (Nat.le_of_ble_eq_true rfl) (ct_X2_peek g) ?_
  refine ev_iload_n dX2_readSign_4 1 rfl rfl ?_
  by_cases c : r1.1 = x1
  · rw [if_pos c] at hD
    refine ev_icmp_eq_t (tgt := 20) dX2_readSign_5 (by decide) c ?_
    refine ev_aload_n dX2_readSign_20 0 rfl rfl ?_
    obtain ⟨v2, g, hD⟩ := bd hD
    refine ew_getI 2 1 dX2_readSign_21 rfl (Nat.le_of_ble_eq_true rfl) w_341 in_X2 rfl g ?_
    by_cases c : v2 ≠ 0
    · rw [if_pos c] at hD
      refine ev_if_ne_t (tgt := 37) dX2_readSign_24 (by decide) c ?_
      refine Ev.pick [] rfl ?_
      exact lk_X2_readSign_37 hD
    · rw [if_neg c] at hD
      refine ev_if_ne_f 37 dX2_readSign_24 (by decide) c ?_
      refine ev_aload_n dX2_readSign_27 0 rfl rfl ?_
      refine ev_dup dX2_readSign_28 rfl ?_
      obtain ⟨v3, g, hD⟩ := bd hD
      refine ew_getI 2 5 dX2_readSign_29 rfl (Nat.le_of_ble_eq_true rfl) w_347 in_X2 rfl g ?_
      refine ev_iconst dX2_readSign_32 (mi_c rfl) ?_
      refine ev_iadd dX2_readSign_33 ?_
      obtain ⟨s4, g, hD⟩ := bd hD
      refine ew_putI 2 5 dX2_readSign_34 rfl (Nat.le_of_ble_eq_true rfl) w_347 in_X2 tyX2_ok nmX2 (Or.inl rfl) rfl g ?_
      refine Ev.pick [] rfl ?_
      exact lk_X2_readSign_37 hD
  · rw [if_neg c] at hD
    refine ev_icmp_eq_f 20 dX2_readSign_5 (by decide) c ?_
    refine ev_aload_n dX2_readSign_8 0 rfl rfl ?_
    refine ev_iconst dX2_readSign_9 (mi_c rfl) ?_
    refine ev_aload_n dX2_readSign_10 0 rfl rfl ?_
    obtain ⟨v5, g, hD⟩ := bd hD
    refine ew_getI 2 5 dX2_readSign_11 rfl (Nat.le_of_ble_eq_true rfl) w_347 in_X2 rfl g ?_
    obtain ⟨_, g0, hD⟩ := bd hD
    obtain ⟨r6, g, hD⟩ := bd hD
    refine ew_callV0 (as := [vi 1, vi v5]) (a := x0) (rest := []) dX2_readSign_14 v_X2_fail w_804 rfl (Nat.le_of_ble_eq_true rfl) rfl rfl g0 (Nat.le_of_ble_eq_true rfl) (Nat.le_of_ble_eq_true rfl) (ct_X2_fail g) ?_
    refine ev_goto (tgt := 37) dX2_readSign_17 (by decide) ?_
    refine Ev.pick [] rfl ?_
    exact lk_X2_readSign_37 hD
theorem ct_X2_readSign {G : mG} {x0 : Nat} {x1 : Int} {σ : mS} {R : mS} (hD : D_X2_readSign x0 x1 σ = some R) : Ct G M_X2_readSign [vr x0, vi x1] σ (.inl none) R := ct_of rfl (by decide +kernel) rfl (Nat.le_of_ble_eq_true rfl) rfl (lk_X2_readSign hD)
def D_X2_isDigit_17 (y0 : Int) (σ : mS) : Option Int :=
  (bO y0).bind fun v1 =>
  some v1
set_option maxRecDepth 100000 in
set_option maxHeartbeats 4000000 in
theorem lk_X2_isDigit_17 {G : mG} {y0 : Int} {σ : mS} {R : Int} (hD : D_X2_isDigit_17 y0 σ = some R) : Ev G M_X2_isDigit 17 [] [vi y0] σ (.inl (some (vi R))) σ := by
  unfold D_X2_isDigit_17 at hD
  obtain ⟨v1, gb, hD⟩ := bd hD
  cases hD
  exact ew_retb dX2_isDigit_17 rfl gb
def D_X2_isDigit_16 (σ : mS) : Option Int :=
  D_X2_isDigit_17 0 σ
set_option maxRecDepth 100000 in
set_option maxHeartbeats 4000000 in
theorem lk_X2_isDigit_16 {G : mG} {σ : mS} {R : Int} (hD : D_X2_isDigit_16  σ = some R) : Ev G M_X2_isDigit 16 [] [] σ (.inl (some (vi R))) σ := by
  unfold D_X2_isDigit_16 at hD
  refine ev_iconst dX2_isDigit_16 (mi_c rfl) ?_
  exact lk_X2_isDigit_17 hD
def D_X2_isDigit (x0 : Int) (σ : mS) : Option Int :=
  if x0 < 48 then
    D_X2_isDigit_16  σ
  else
    if 57 < x0 then
      D_X2_isDigit_16  σ
    else
      D_X2_isDigit_17 1 σ
set_option maxRecDepth 100000 in
set_option maxHeartbeats 4000000 in
theorem lk_X2_isDigit {G : mG} {x0 : Int} {σ : mS} {R : Int} (hD : D_X2_isDigit x0 σ = some R) : Ev G M_X2_isDigit 0 [(0, vi x0)] [] σ (.inl (some (vi R))) σ := by
  unfold D_X2_isDigit at hD
  refine ev_iload_n dX2_isDigit_0 0 rfl rfl ?_
  refine ev_bp dX2_isDigit_1 rfl ?_
  by_cases c : x0 < 48
  · rw [if_pos c] at hD
    refine ev_icmp_lt_t (tgt := 16) dX2_isDigit_3 (by decide) c ?_
    refine Ev.pick [] rfl ?_
    exact lk_X2_isDigit_16 hD
  · rw [if_neg c] at hD
    refine ev_icmp_lt_f 16 dX2_isDigit_3 (by decide) c ?_
    refine ev_iload_n dX2_isDigit_6 0 rfl rfl ?_
    refine ev_bp dX2_isDigit_7 rfl ?_
    by_cases c : 57 < x0
    · rw [if_pos c] at hD
      refine ev_icmp_gt_t (tgt := 16) dX2_isDigit_9 (by decide) c ?_
      refine Ev.pick [] rfl ?_
      exact lk_X2_isDigit_16 hD
    · rw [if_neg c] at hD
      refine ev_icmp_gt_f 16 dX2_isDigit_9 (by decide) c ?_
      refine ev_iconst dX2_isDigit_12 (mi_c rfl) ?_
      refine ev_goto (tgt := 17) dX2_isDigit_13 (by decide) ?_
      refine Ev.pick [] rfl ?_
      exact lk_X2_isDigit_17 hD
theorem ct_X2_isDigit {G : mG} {x0 : Int} {σ : mS} {R : Int} (hD : D_X2_isDigit x0 σ = some R) : Ct G M_X2_isDigit [vi x0] σ (.inl (some (vi R))) σ := ct_of rfl (by decide +kernel) rfl (Nat.le_of_ble_eq_true rfl) rfl (lk_X2_isDigit hD)
def D_X2_readNumber_90 (rec : Nat → Int → mS → Option (Int × mS)) (x0 : Nat) (y0 : Int) (σ : mS) : Option (Int × mS) :=
  (gI σ x0 2 5).bind fun v1 =>
  (pI σ x0 2 5 (mw (v1 + 1))).bind fun s2 =>
  rec x0 y0 s2
set_option maxRecDepth 100000 in
set_option maxHeartbeats 4000000 in
theorem lk_X2_readNumber_90 {G : mG} {rec : Nat → Int → mS → Option (Int × mS)} {x0 : Nat} {x1 : Int} {x2 : Int} {x3 : Int} {y0 : Int} {σ : mS} {R : (Int × mS)} {r : mX} {τ : mS} (hD : D_X2_readNumber_90 rec x0 y0 σ = some R) (hrec : ∀ {x0 : Nat} {x4 : Int} {σ : mS} {R : (Int × mS)}, rec x0 x4 σ = some R → ∀ {r : mX} {τ : mS}, Ev G M_X2_readNumber 105 [(0, vr x0), (1, vi x1), (2, vi x2), (3, vi x3), (4, vi (R.1))] [] R.2 r τ → Ev G M_X2_readNumber 27 [(0, vr x0), (1, vi x1), (2, vi x2), (3, vi x3), (4, vi x4)] [] σ r τ) (hk : Ev G M_X2_readNumber 105 [(0, vr x0), (1, vi x1), (2, vi x2), (3, vi x3), (4, vi (R.1))] [] R.2 r τ) : Ev G M_X2_readNumber 90 [(0, vr x0), (1, vi x1), (2, vi x2), (3, vi x3)] [vi y0] σ r τ := by
  unfold D_X2_readNumber_90 at hD
  refine ev_istore dX2_readNumber_90 (Nat.le_of_ble_eq_true rfl) rfl ?_
  refine ev_aload_n dX2_readNumber_92 1 rfl rfl ?_
  refine ev_dup dX2_readNumber_93 rfl ?_
  obtain ⟨v1, g, hD⟩ := bd hD
  refine ew_getI 2 5 dX2_readNumber_94 rfl (Nat.le_of_ble_eq_true rfl) w_347 in_X2 rfl g ?_
  refine ev_iconst dX2_readNumber_97 (mi_c rfl) ?_
  refine ev_iadd dX2_readNumber_98 ?_
  obtain ⟨s2, g, hD⟩ := bd hD
  refine ew_putI 2 5 dX2_readNumber_99 rfl (Nat.le_of_ble_eq_true rfl) w_347 in_X2 tyX2_ok nmX2 (Or.inl rfl) rfl g ?_
  refine ev_goto (tgt := 27) dX2_readNumber_102 (by decide) ?_
  refine Ev.pick [1, 2, 3, 4, 0] rfl ?_
  exact hrec hD hk
def D_X2_readNumber_27 : Nat → Nat → Int → mS → Option (Int × mS)
  | 0, _, _, _ => none
  | f + 1, x0, x4, σ =>
    (gI σ x0 2 1).bind fun v1 =>
    if v1 ≠ 0 then
      some (x4, σ)
    else
      (gI σ x0 2 5).bind fun v2 =>
      (gI σ x0 2 4).bind fun v3 =>
      if v3 ≤ v2 then
        some (x4, σ)
      else
        (gR σ x0 2 3).bind fun v4 =>
        (gI σ x0 2 5).bind fun v5 =>
        (lI σ v4 v5).bind fun v6 =>
        (D_X2_isDigit v6 σ).bind fun r7 =>
        if r7 = 0 then
          some (x4, σ)
        else
          if 100000 ≤ x4 then
            D_X2_readNumber_90 (D_X2_readNumber_27 f) x0 x4 σ
          else
            (gR σ x0 2 3).bind fun v8 =>
            (gI σ x0 2 5).bind fun v9 =>
            (lI σ v8 v9).bind fun v10 =>
            D_X2_readNumber_90 (D_X2_readNumber_27 f) x0 (mw ((mw ((mw (10 * x4)) + v10)) - 48)) σ
set_option maxRecDepth 100000 in
set_option maxHeartbeats 4000000 in
theorem lk_X2_readNumber_27 {G : mG} {x1 : Int} {x2 : Int} {x3 : Int} (f : Nat) : ∀ {x0 : Nat} {x4 : Int} {σ : mS} {R : (Int × mS)}, D_X2_readNumber_27 f x0 x4 σ = some R → ∀ {r : mX} {τ : mS}, Ev G M_X2_readNumber 105 [(0, vr x0), (1, vi x1), (2, vi x2), (3, vi x3), (4, vi (R.1))] [] R.2 r τ → Ev G M_X2_readNumber 27 [(0, vr x0), (1, vi x1), (2, vi x2), (3, vi x3), (4, vi x4)] [] σ r τ := by
  induction f with
  | zero =>
    intros
    rename_i hD _ _ _
    cases hD
  | succ f ih =>
    intro x0 x4 σ R hD r τ hk
    have hrec := @ih
    rw [D_X2_readNumber_27] at hD
    refine ev_aload_n dX2_readNumber_27 0 rfl rfl ?_
    obtain ⟨v1, g, hD⟩ := bd hD
    refine ew_getI 2 1 dX2_readNumber_28 rfl (Nat.le_of_ble_eq_true rfl) w_341 in_X2 rfl g ?_
    by_cases c : v1 ≠ 0
    · rw [if_pos c] at hD
      refine ev_if_ne_t (tgt := 105) dX2_readNumber_31 (by decide) c ?_
      cases hD
      exact hk
    · rw [if_neg c] at hD
      refine ev_if_ne_f 105 dX2_readNumber_31 (by decide) c ?_
      refine ev_aload_n dX2_readNumber_34 0 rfl rfl ?_
      obtain ⟨v2, g, hD⟩ := bd hD
      refine ew_getI 2 5 dX2_readNumber_35 rfl (Nat.le_of_ble_eq_true rfl) w_347 in_X2 rfl g ?_
      refine ev_aload_n dX2_readNumber_38 0 rfl rfl ?_
      obtain ⟨v3, g, hD⟩ := bd hD
      refine ew_getI 2 4 dX2_readNumber_39 rfl (Nat.le_of_ble_eq_true rfl) w_346 in_X2 rfl g ?_
      by_cases c : v3 ≤ v2
      · rw [if_pos c] at hD
        refine ev_icmp_ge_t (tgt := 105) dX2_readNumber_42 (by decide) c ?_
        cases hD
        exact hk
      · rw [if_neg c] at hD
        refine ev_icmp_ge_f 105 dX2_readNumber_42 (by decide) c ?_
        refine ev_aload_n dX2_readNumber_45 0 rfl rfl ?_
        obtain ⟨v4, g, hD⟩ := bd hD
        refine ew_getR 2 3 dX2_readNumber_46 rfl (Nat.le_of_ble_eq_true rfl) w_345 in_X2 rfl g ?_
        refine ev_aload_n dX2_readNumber_49 0 rfl rfl ?_
        obtain ⟨v5, g, hD⟩ := bd hD
        refine ew_getI 2 5 dX2_readNumber_50 rfl (Nat.le_of_ble_eq_true rfl) w_347 in_X2 rfl g ?_
        obtain ⟨v6, g, hD⟩ := bd hD
        refine ew_iald dX2_readNumber_53 g ?_
        obtain ⟨r7, g, hD⟩ := bd hD
        refine ew_callSv (as := [vi v6]) (rest := []) dX2_readNumber_54 v_X2_isDigit w_888 rfl (Nat.le_of_ble_eq_true rfl) (Nat.le_of_ble_eq_true rfl) (Nat.le_of_ble_eq_true rfl) (ct_X2_isDigit g) ?_
        by_cases c : r7 = 0
        · rw [if_pos c] at hD
          refine ev_if_eq_t (tgt := 105) dX2_readNumber_57 (by decide) c ?_
          cases hD
          exact hk
        · rw [if_neg c] at hD
          refine ev_if_eq_f 105 dX2_readNumber_57 (by decide) c ?_
          refine ev_iload dX2_readNumber_60 4 rfl ?_
          refine ev_ldc dX2_readNumber_62 w_891 (mi_c rfl) ?_
          by_cases c : 100000 ≤ x4
          · rw [if_pos c] at hD
            refine ev_icmp_ge_t (tgt := 88) dX2_readNumber_64 (by decide) c ?_
            refine ev_iload dX2_readNumber_88 4 rfl ?_
            refine Ev.pick [0, 1, 2, 3] rfl ?_
            exact lk_X2_readNumber_90 hD hrec hk
          · rw [if_neg c] at hD
            refine ev_icmp_ge_f 88 dX2_readNumber_64 (by decide) c ?_
            refine ev_bp dX2_readNumber_67 rfl ?_
            refine ev_iload dX2_readNumber_69 4 rfl ?_
            refine ev_imul dX2_readNumber_71 ?_
            refine ev_aload_n dX2_readNumber_72 0 rfl rfl ?_
            obtain ⟨v8, g, hD⟩ := bd hD
            refine ew_getR 2 3 dX2_readNumber_73 rfl (Nat.le_of_ble_eq_true rfl) w_345 in_X2 rfl g ?_
            refine ev_aload_n dX2_readNumber_76 0 rfl rfl ?_
            obtain ⟨v9, g, hD⟩ := bd hD
            refine ew_getI 2 5 dX2_readNumber_77 rfl (Nat.le_of_ble_eq_true rfl) w_347 in_X2 rfl g ?_
            obtain ⟨v10, g, hD⟩ := bd hD
            refine ew_iald dX2_readNumber_80 g ?_
            refine ev_iadd dX2_readNumber_81 ?_
            refine ev_bp dX2_readNumber_82 rfl ?_
            refine ev_isub dX2_readNumber_84 ?_
            refine ev_goto (tgt := 90) dX2_readNumber_85 (by decide) ?_
            refine Ev.pick [0, 1, 2, 3] rfl ?_
            exact lk_X2_readNumber_90 hD hrec hk
def D_X2_readNumber_123 (x4 : Int) (σ : mS) : Option (Int × mS) :=
  some (x4, σ)
set_option maxRecDepth 100000 in
set_option maxHeartbeats 4000000 in
theorem lk_X2_readNumber_123 {G : mG} {x4 : Int} {σ : mS} {R : (Int × mS)} (hD : D_X2_readNumber_123 x4 σ = some R) : Ev G M_X2_readNumber 123 [(4, vi x4)] [] σ (.inl (some (vi R.1))) R.2 := by
  unfold D_X2_readNumber_123 at hD
  refine ev_iload dX2_readNumber_123 0 rfl ?_
  cases hD
  exact ev_ret (some (vi _)) dX2_readNumber_125 True.intro
def D_X2_readNumber_117 (x0 : Nat) (x3 : Int) (x4 : Int) (σ : mS) : Option (Int × mS) :=
  (tgO σ x0 2).bind fun _ =>
  (D_X2_fail x0 2 x3 σ).bind fun r1 =>
  D_X2_readNumber_123 x4 r1
set_option maxRecDepth 100000 in
set_option maxHeartbeats 4000000 in
theorem lk_X2_readNumber_117 {G : mG} {x0 : Nat} {x3 : Int} {x4 : Int} {σ : mS} {R : (Int × mS)} (hD : D_X2_readNumber_117 x0 x3 x4 σ = some R) : Ev G M_X2_readNumber 117 [(0, vr x0), (3, vi x3), (4, vi x4)] [] σ (.inl (some (vi R.1))) R.2 := by
  unfold D_X2_readNumber_117 at hD
  refine ev_aload_n dX2_readNumber_117 0 rfl rfl ?_
  refine ev_iconst dX2_readNumber_118 (mi_c rfl) ?_
  refine ev_iload_n dX2_readNumber_119 1 rfl rfl ?_
  obtain ⟨_, g0, hD⟩ := bd hD
  obtain ⟨r1, g, hD⟩ := bd hD
  refine ew_callV0 (as := [vi 2, vi x3]) (a := x0) (rest := []) dX2_readNumber_120 v_X2_fail w_804 rfl (Nat.le_of_ble_eq_true rfl) rfl rfl g0 (Nat.le_of_ble_eq_true rfl) (Nat.le_of_ble_eq_true rfl) (ct_X2_fail g) ?_
  refine Ev.pick [2] rfl ?_
  exact lk_X2_readNumber_123 hD
def D_X2_readNumber_105 (x0 : Nat) (x1 : Int) (x2 : Int) (x3 : Int) (x4 : Int) (σ : mS) : Option (Int × mS) :=
  if x4 < x1 then
    D_X2_readNumber_117 x0 x3 x4 σ
  else
    if x4 ≤ x2 then
      D_X2_readNumber_123 x4 σ
    else
      D_X2_readNumber_117 x0 x3 x4 σ
set_option maxRecDepth 100000 in
set_option maxHeartbeats 4000000 in
theorem lk_X2_readNumber_105 {G : mG} {x0 : Nat} {x1 : Int} {x2 : Int} {x3 : Int} {x4 : Int} {σ : mS} {R : (Int × mS)} (hD : D_X2_readNumber_105 x0 x1 x2 x3 x4 σ = some R) : Ev G M_X2_readNumber 105 [(0, vr x0), (1, vi x1), (2, vi x2), (3, vi x3), (4, vi x4)] [] σ (.inl (some (vi R.1))) R.2 := by
  unfold D_X2_readNumber_105 at hD
  refine ev_iload dX2_readNumber_105 4 rfl ?_
  refine ev_iload_n dX2_readNumber_107 1 rfl rfl ?_
  by_cases c : x4 < x1
  · rw [if_pos c] at hD
    refine ev_icmp_lt_t (tgt := 117) dX2_readNumber_108 (by decide) c ?_
    refine Ev.pick [0, 3, 4] rfl ?_
    exact lk_X2_readNumber_117 hD
  · rw [if_neg c] at hD
    refine ev_icmp_lt_f 117 dX2_readNumber_108 (by decide) c ?_
    refine ev_iload dX2_readNumber_111 4 rfl ?_
    refine ev_iload_n dX2_readNumber_113 2 rfl rfl ?_
    by_cases c : x4 ≤ x2
    · rw [if_pos c] at hD
      refine ev_icmp_le_t (tgt := 123) dX2_readNumber_114 (by decide) c ?_
      refine Ev.pick [4] rfl ?_
      exact lk_X2_readNumber_123 hD
    · rw [if_neg c] at hD
      refine ev_icmp_le_f 123 dX2_readNumber_114 (by decide) c ?_
      refine Ev.pick [0, 3, 4] rfl ?_
      exact lk_X2_readNumber_117 hD
def D_X2_readNumber_19 (x0 : Nat) (x1 : Int) (x2 : Int) (σ : mS) : Option (Int × mS) :=
  (gI σ x0 2 5).bind fun v1 =>
  (D_X2_readNumber_27 mFU x0 0 σ).bind fun r2 =>
  D_X2_readNumber_105 x0 x1 x2 v1 r2.1 r2.2
set_option maxRecDepth 100000 in
set_option maxHeartbeats 4000000 in
theorem lk_X2_readNumber_19 {G : mG} {x0 : Nat} {x1 : Int} {x2 : Int} {σ : mS} {R : (Int × mS)} (hD : D_X2_readNumber_19 x0 x1 x2 σ = some R) : Ev G M_X2_readNumber 19 [(0, vr x0), (1, vi x1), (2, vi x2)] [] σ (.inl (some (vi R.1))) R.2 := by
  unfold D_X2_readNumber_19 at hD
  refine ev_aload_n dX2_readNumber_19 0 rfl rfl ?_
  obtain ⟨v1, g, hD⟩ := bd hD
  refine ew_getI 2 5 dX2_readNumber_20 rfl (Nat.le_of_ble_eq_true rfl) w_347 in_X2 rfl g ?_
  refine ev_istore_n dX2_readNumber_23 rfl (Nat.le_of_ble_eq_true rfl) rfl ?_
  refine ev_iconst dX2_readNumber_24 (mi_c rfl) ?_
  refine ev_istore dX2_readNumber_25 (Nat.le_of_ble_eq_true rfl) rfl ?_
  obtain ⟨r2, g, hD⟩ := bd hD
  refine Ev.pick [2, 3, 4, 1, 0] rfl ?_
  refine lk_X2_readNumber_27 mFU g ?_
  exact lk_X2_readNumber_105 hD
def D_X2_readNumber (x0 : Nat) (x1 : Int) (x2 : Int) (σ : mS) : Option (Int × mS) :=
  (tgO σ x0 2).bind fun _ =>
  (D_X2_peek x0 σ).bind fun r1 =>
  (D_X2_isDigit r1.1 r1.2).bind fun r2 =>
  if r2 ≠ 0 then
    D_X2_readNumber_19 x0 x1 x2 r1.2
  else
    (gI r1.2 x0 2 5).bind fun v3 =>
    (tgO r1.2 x0 2).bind fun _ =>
    (D_X2_fail x0 1 v3 r1.2).bind fun r4 =>
    D_X2_readNumber_19 x0 x1 x2 r4
set_option maxRecDepth 100000 in
set_option maxHeartbeats 4000000 in
theorem lk_X2_readNumber {G : mG} {x0 : Nat} {x1 : Int} {x2 : Int} {σ : mS} {R : (Int × mS)} (hD : D_X2_readNumber x0 x1 x2 σ = some R) : Ev G M_X2_readNumber 0 [(0, vr x0), (1, vi x1), (2, vi x2)] [] σ (.inl (some (vi R.1))) R.2 := by
  unfold D_X2_readNumber at hD
  refine ev_aload_n dX2_readNumber_0 0 rfl rfl ?_
  obtain ⟨_, g0, hD⟩ := bd hD
  obtain ⟨r1, g, hD⟩ := bd hD
  refine ew_callVv (as := []) (a := x0) (rest := []) dX2_readNumber_1 v_X2_peek w_797 rfl (Nat.le_of_ble_eq_true rfl) rfl rfl g0 (Nat.le_of_ble_eq_true rfl) (Nat.le_of_ble_eq_true rfl) (ct_X2_peek g) ?_
  obtain ⟨r2, g, hD⟩ := bd hD
  refine ew_callSv (as := [vi r1.1]) (rest := []) dX2_readNumber_4 v_X2_isDigit w_888 rfl (Nat.le_of_ble_eq_true rfl) (Nat.le_of_ble_eq_true rfl) (Nat.le_of_ble_eq_true rfl) (ct_X2_isDigit g) ?_
  by_cases c : r2 ≠ 0
  · rw [if_pos c] at hD
    refine ev_if_ne_t (tgt := 19) dX2_readNumber_7 (by decide) c ?_
    exact lk_X2_readNumber_19 hD
  · rw [if_neg c] at hD
    refine ev_if_ne_f 19 dX2_readNumber_7 (by decide) c ?_
    refine ev_aload_n dX2_readNumber_10 0 rfl rfl ?_
    refine ev_iconst dX2_readNumber_11 (mi_c rfl) ?_
    refine ev_aload_n dX2_readNumber_12 0 rfl rfl ?_
    obtain ⟨v3, g, hD⟩ := bd hD
    refine ew_getI 2 5 dX2_readNumber_13 rfl (Nat.le_of_ble_eq_true rfl) w_347 in_X2 rfl g ?_
    obtain ⟨_, g0, hD⟩ := bd hD
    obtain ⟨r4, g, hD⟩ := bd hD
    refine ew_callV0 (as := [vi 1, vi v3]) (a := x0) (rest := []) dX2_readNumber_16 v_X2_fail w_804 rfl (Nat.le_of_ble_eq_true rfl) rfl rfl g0 (Nat.le_of_ble_eq_true rfl) (Nat.le_of_ble_eq_true rfl) (ct_X2_fail g) ?_
    exact lk_X2_readNumber_19 hD
theorem ct_X2_readNumber {G : mG} {x0 : Nat} {x1 : Int} {x2 : Int} {σ : mS} {R : (Int × mS)} (hD : D_X2_readNumber x0 x1 x2 σ = some R) : Ct G M_X2_readNumber [vr x0, vi x1, vi x2] σ (.inl (some (vi R.1))) R.2 := ct_of rfl (by decide +kernel) rfl (Nat.le_of_ble_eq_true rfl) rfl (lk_X2_readNumber hD)
def D_X2_readCurve_75 (rec : Nat → Int → Int → mS → Option (mS ⊕ mS ⊕ mS)) (x0 : Nat) (x2 : Int) (x3 : Int) (σ : mS) : Option (mS ⊕ mS ⊕ mS) :=
  (tgO σ x0 2).bind fun _ =>
  (D_X2_readNumber x0 (mw (x2 + 1)) 999 σ).bind fun r1 =>
  (gR r1.2 x0 2 0).bind fun v2 =>
  (gR r1.2 v2 5 6).bind fun v3 =>
  (sI r1.2 v3 x3 r1.1).bind fun s4 =>
  (gR s4 x0 2 0).bind fun v5 =>
  (gR s4 v5 5 7).bind fun v6 =>
  (tgO s4 x0 2).bind fun _ =>
  (D_X2_readNumber x0 0 9999 s4).bind fun r7 =>
  (sI r7.2 v6 x3 r7.1).bind fun s8 =>
  (gR s8 x0 2 0).bind fun v9 =>
  (pI s8 v9 5 2 (mw (x3 + 1))).bind fun s10 =>
  rec x0 r1.1 (mw (x3 + 1)) s10
set_option maxRecDepth 100000 in
set_option maxHeartbeats 4000000 in
theorem lk_X2_readCurve_75 {G : mG} {rec : Nat → Int → Int → mS → Option (mS ⊕ mS ⊕ mS)} {x0 : Nat} {x2 : Int} {x3 : Int} {σ : mS} {R : (mS ⊕ mS ⊕ mS)} {r : mX} {τ : mS} (hD : D_X2_readCurve_75 rec x0 x2 x3 σ = some R) (hrec : ∀ {x0 : Nat} {x2 : Int} {x3 : Int} {σ : mS} {R : (mS ⊕ mS ⊕ mS)}, rec x0 x2 x3 σ = some R → ∀ {r : mX} {τ : mS}, (∀ z, R = (Sum.inl z) → Ev G M_X2_readCurve 44 [(0, vr x0)] [] z r τ) ∧ (∀ z, R = (Sum.inr (Sum.inl z)) → Ev G M_X2_readCurve 53 [(0, vr x0)] [] z r τ) ∧ (∀ z, R = (Sum.inr (Sum.inr z)) → Ev G M_X2_readCurve 129 [(0, vr x0)] [] z r τ) → Ev G M_X2_readCurve 17 [(0, vr x0), (2, vi x2), (3, vi x3)] [] σ r τ) (hk : (∀ z, R = (Sum.inl z) → Ev G M_X2_readCurve 44 [(0, vr x0)] [] z r τ) ∧ (∀ z, R = (Sum.inr (Sum.inl z)) → Ev G M_X2_readCurve 53 [(0, vr x0)] [] z r τ) ∧ (∀ z, R = (Sum.inr (Sum.inr z)) → Ev G M_X2_readCurve 129 [(0, vr x0)] [] z r τ)) : Ev G M_X2_readCurve 75 [(0, vr x0), (2, vi x2), (3, vi x3)] [] σ r τ := by
  unfold D_X2_readCurve_75 at hD
  refine ev_aload_n dX2_readCurve_75 0 rfl rfl ?_
  refine ev_iload_n dX2_readCurve_76 1 rfl rfl ?_
  refine ev_iconst dX2_readCurve_77 (mi_c rfl) ?_
  refine ev_iadd dX2_readCurve_78 ?_
  refine ev_sp dX2_readCurve_79 rfl ?_
  obtain ⟨_, g0, hD⟩ := bd hD
  obtain ⟨r1, g, hD⟩ := bd hD
  refine ew_callVv (as := [vi (mw (x2 + 1)), vi 999]) (a := x0) (rest := []) dX2_readCurve_82 v_X2_readNumber w_884 rfl (Nat.le_of_ble_eq_true rfl) rfl rfl g0 (Nat.le_of_ble_eq_true rfl) (Nat.le_of_ble_eq_true rfl) (ct_X2_readNumber g) ?_
  refine ev_istore_n dX2_readCurve_85 rfl (Nat.le_of_ble_eq_true rfl) rfl ?_
  refine ev_aload_n dX2_readCurve_86 1 rfl rfl ?_
  obtain ⟨v2, g, hD⟩ := bd hD
  refine ew_getR 2 0 dX2_readCurve_87 rfl (Nat.le_of_ble_eq_true rfl) w_339 in_X2 rfl g ?_
  obtain ⟨v3, g, hD⟩ := bd hD
  refine ew_getR 5 6 dX2_readCurve_90 rfl (Nat.le_of_ble_eq_true rfl) w_290 in_X5 rfl g ?_
  refine ev_iload_n dX2_readCurve_93 2 rfl rfl ?_
  refine ev_iload_n dX2_readCurve_94 0 rfl rfl ?_
  obtain ⟨s4, g, hD⟩ := bd hD
  refine ew_iast dX2_readCurve_95 g ?_
  refine ev_aload_n dX2_readCurve_96 1 rfl rfl ?_
  obtain ⟨v5, g, hD⟩ := bd hD
  refine ew_getR 2 0 dX2_readCurve_97 rfl (Nat.le_of_ble_eq_true rfl) w_339 in_X2 rfl g ?_
  obtain ⟨v6, g, hD⟩ := bd hD
  refine ew_getR 5 7 dX2_readCurve_100 rfl (Nat.le_of_ble_eq_true rfl) w_293 in_X5 rfl g ?_
  refine ev_iload_n dX2_readCurve_103 2 rfl rfl ?_
  refine ev_aload_n dX2_readCurve_104 1 rfl rfl ?_
  refine ev_iconst dX2_readCurve_105 (mi_c rfl) ?_
  refine ev_sp dX2_readCurve_106 rfl ?_
  obtain ⟨_, g0, hD⟩ := bd hD
  obtain ⟨r7, g, hD⟩ := bd hD
  refine ew_callVv (as := [vi 0, vi 9999]) (a := x0) (rest := [vi x3, vr v6]) dX2_readCurve_109 v_X2_readNumber w_884 rfl (Nat.le_of_ble_eq_true rfl) rfl rfl g0 (Nat.le_of_ble_eq_true rfl) (Nat.le_of_ble_eq_true rfl) (ct_X2_readNumber g) ?_
  obtain ⟨s8, g, hD⟩ := bd hD
  refine ew_iast dX2_readCurve_112 g ?_
  refine ev_aload_n dX2_readCurve_113 1 rfl rfl ?_
  obtain ⟨v9, g, hD⟩ := bd hD
  refine ew_getR 2 0 dX2_readCurve_114 rfl (Nat.le_of_ble_eq_true rfl) w_339 in_X2 rfl g ?_
  refine ev_iload_n dX2_readCurve_117 2 rfl rfl ?_
  refine ev_iconst dX2_readCurve_118 (mi_c rfl) ?_
  refine ev_iadd dX2_readCurve_119 ?_
  obtain ⟨s10, g, hD⟩ := bd hD
  refine ew_putI 5 2 dX2_readCurve_120 rfl (Nat.le_of_ble_eq_true rfl) w_274 in_X5 tyX5_ok nmX5 (Or.inl rfl) rfl g ?_
  refine ev_iinc dX2_readCurve_123 2 rfl (Nat.le_of_ble_eq_true rfl) rfl ?_
  refine ev_goto (tgt := 17) dX2_readCurve_126 (by decide) ?_
  refine Ev.pick [2, 1, 0] rfl ?_
  exact hrec hD hk
def D_X2_readCurve_47 (rec : Nat → Int → Int → mS → Option (mS ⊕ mS ⊕ mS)) (x0 : Nat) (x2 : Int) (x3 : Int) (σ : mS) : Option (mS ⊕ mS ⊕ mS) :=
  if x3 ≠ 16 then
    if x3 ≤ 0 then
      D_X2_readCurve_75 rec x0 x2 x3 σ
    else
      (tgO σ x0 2).bind fun _ =>
      (D_X2_readSign x0 44 σ).bind fun r1 =>
      D_X2_readCurve_75 rec x0 x2 x3 r1
  else
    some (Sum.inr (Sum.inl σ))
set_option maxRecDepth 100000 in
set_option maxHeartbeats 4000000 in
theorem lk_X2_readCurve_47 {G : mG} {rec : Nat → Int → Int → mS → Option (mS ⊕ mS ⊕ mS)} {x0 : Nat} {x2 : Int} {x3 : Int} {σ : mS} {R : (mS ⊕ mS ⊕ mS)} {r : mX} {τ : mS} (hD : D_X2_readCurve_47 rec x0 x2 x3 σ = some R) (hrec : ∀ {x0 : Nat} {x2 : Int} {x3 : Int} {σ : mS} {R : (mS ⊕ mS ⊕ mS)}, rec x0 x2 x3 σ = some R → ∀ {r : mX} {τ : mS}, (∀ z, R = (Sum.inl z) → Ev G M_X2_readCurve 44 [(0, vr x0)] [] z r τ) ∧ (∀ z, R = (Sum.inr (Sum.inl z)) → Ev G M_X2_readCurve 53 [(0, vr x0)] [] z r τ) ∧ (∀ z, R = (Sum.inr (Sum.inr z)) → Ev G M_X2_readCurve 129 [(0, vr x0)] [] z r τ) → Ev G M_X2_readCurve 17 [(0, vr x0), (2, vi x2), (3, vi x3)] [] σ r τ) (hk : (∀ z, R = (Sum.inl z) → Ev G M_X2_readCurve 44 [(0, vr x0)] [] z r τ) ∧ (∀ z, R = (Sum.inr (Sum.inl z)) → Ev G M_X2_readCurve 53 [(0, vr x0)] [] z r τ) ∧ (∀ z, R = (Sum.inr (Sum.inr z)) → Ev G M_X2_readCurve 129 [(0, vr x0)] [] z r τ)) : Ev G M_X2_readCurve 47 [(0, vr x0), (2, vi x2), (3, vi x3)] [] σ r τ := by
  unfold D_X2_readCurve_47 at hD
  refine ev_iload_n dX2_readCurve_47 2 rfl rfl ?_
  refine ev_bp dX2_readCurve_48 rfl ?_
  by_cases c : x3 ≠ 16
  · rw [if_pos c] at hD
    refine ev_icmp_ne_t (tgt := 65) dX2_readCurve_50 (by decide) c ?_
    refine ev_iload_n dX2_readCurve_65 2 rfl rfl ?_
    by_cases c : x3 ≤ 0
    · rw [if_pos c] at hD
      refine ev_if_le_t (tgt := 75) dX2_readCurve_66 (by decide) c ?_
      exact lk_X2_readCurve_75 hD hrec hk
    · rw [if_neg c] at hD
      refine ev_if_le_f 75 dX2_readCurve_66 (by decide) c ?_
      refine ev_aload_n dX2_readCurve_69 0 rfl rfl ?_
      refine ev_bp dX2_readCurve_70 rfl ?_
      obtain ⟨_, g0, hD⟩ := bd hD
      obtain ⟨r1, g, hD⟩ := bd hD
      refine ew_callV0 (as := [vi 44]) (a := x0) (rest := []) dX2_readCurve_72 v_X2_readSign w_880 rfl (Nat.le_of_ble_eq_true rfl) rfl rfl g0 (Nat.le_of_ble_eq_true rfl) (Nat.le_of_ble_eq_true rfl) (ct_X2_readSign g) ?_
      exact lk_X2_readCurve_75 hD hrec hk
  · rw [if_neg c] at hD
    refine ev_icmp_ne_f 65 dX2_readCurve_50 (by decide) c ?_
    cases hD
    refine Ev.pick [0] rfl ?_
    exact hk.2.1 _ rfl
def D_X2_readCurve_17 : Nat → Nat → Int → Int → mS → Option (mS ⊕ mS ⊕ mS)
  | 0, _, _, _, _ => none
  | f + 1, x0, x2, x3, σ =>
    if 16 < x3 then
      some (Sum.inr (Sum.inr σ))
    else
      (gI σ x0 2 1).bind fun v1 =>
      if v1 ≠ 0 then
        some (Sum.inr (Sum.inr σ))
      else
        if x3 < 2 then
          D_X2_readCurve_47 (D_X2_readCurve_17 f) x0 x2 x3 σ
        else
          (tgO σ x0 2).bind fun _ =>
          (D_X2_peek x0 σ).bind fun r2 =>
          if r2.1 = 44 then
            D_X2_readCurve_47 (D_X2_readCurve_17 f) x0 x2 x3 r2.2
          else
            some (Sum.inl r2.2)
set_option maxRecDepth 100000 in
set_option maxHeartbeats 4000000 in
theorem lk_X2_readCurve_17 {G : mG} (f : Nat) : ∀ {x0 : Nat} {x2 : Int} {x3 : Int} {σ : mS} {R : (mS ⊕ mS ⊕ mS)}, D_X2_readCurve_17 f x0 x2 x3 σ = some R → ∀ {r : mX} {τ : mS}, (∀ z, R = (Sum.inl z) → Ev G M_X2_readCurve 44 [(0, vr x0)] [] z r τ) ∧ (∀ z, R = (Sum.inr (Sum.inl z)) → Ev G M_X2_readCurve 53 [(0, vr x0)] [] z r τ) ∧ (∀ z, R = (Sum.inr (Sum.inr z)) → Ev G M_X2_readCurve 129 [(0, vr x0)] [] z r τ) → Ev G M_X2_readCurve 17 [(0, vr x0), (2, vi x2), (3, vi x3)] [] σ r τ := by
  induction f with
  | zero =>
    intros
    rename_i hD _ _ _
    cases hD
  | succ f ih =>
    intro x0 x2 x3 σ R hD r τ hk
    have hrec := @ih
    rw [D_X2_readCurve_17] at hD
    refine ev_iload_n dX2_readCurve_17 2 rfl rfl ?_
    refine ev_bp dX2_readCurve_18 rfl ?_
    by_cases c : 16 < x3
    · rw [if_pos c] at hD
      refine ev_icmp_gt_t (tgt := 129) dX2_readCurve_20 (by decide) c ?_
      cases hD
      refine Ev.pick [0] rfl ?_
      exact hk.2.2 _ rfl
    · rw [if_neg c] at hD
      refine ev_icmp_gt_f 129 dX2_readCurve_20 (by decide) c ?_
      refine ev_aload_n dX2_readCurve_23 0 rfl rfl ?_
      obtain ⟨v1, g, hD⟩ := bd hD
      refine ew_getI 2 1 dX2_readCurve_24 rfl (Nat.le_of_ble_eq_true rfl) w_341 in_X2 rfl g ?_
      by_cases c : v1 ≠ 0
      · rw [if_pos c] at hD
        refine ev_if_ne_t (tgt := 129) dX2_readCurve_27 (by decide) c ?_
        cases hD
        refine Ev.pick [0] rfl ?_
        exact hk.2.2 _ rfl
      · rw [if_neg c] at hD
        refine ev_if_ne_f 129 dX2_readCurve_27 (by decide) c ?_
        refine ev_iload_n dX2_readCurve_30 2 rfl rfl ?_
        refine ev_iconst dX2_readCurve_31 (mi_c rfl) ?_
        by_cases c : x3 < 2
        · rw [if_pos c] at hD
          refine ev_icmp_lt_t (tgt := 47) dX2_readCurve_32 (by decide) c ?_
          exact lk_X2_readCurve_47 hD hrec hk
        · rw [if_neg c] at hD
          refine ev_icmp_lt_f 47 dX2_readCurve_32 (by decide) c ?_
          refine ev_aload_n dX2_readCurve_35 0 rfl rfl ?_
          obtain ⟨_, g0, hD⟩ := bd hD
          obtain ⟨r2, g, hD⟩ := bd hD
          refine ew_callVv (as := []) (a := x0) (rest := []) dX2_readCurve_36 v_X2_peek w_797 rfl (Nat.le_of_ble_eq_true rfl) rfl rfl g0 (Nat.le_of_ble_eq_true rfl) (Nat.le_of_ble_eq_true rfl) (ct_X2_peek g) ?_
          refine ev_bp dX2_readCurve_39 rfl ?_
          by_cases c : r2.1 = 44
          · rw [if_pos c] at hD
            refine ev_icmp_eq_t (tgt := 47) dX2_readCurve_41 (by decide) c ?_
            exact lk_X2_readCurve_47 hD hrec hk
          · rw [if_neg c] at hD
            refine ev_icmp_eq_f 47 dX2_readCurve_41 (by decide) c ?_
            cases hD
            refine Ev.pick [0] rfl ?_
            exact hk.1 _ rfl
def D_X2_readCurve_129 (x0 : Nat) (σ : mS) : Option mS :=
  (tgO σ x0 2).bind fun _ =>
  (D_X2_readSign x0 59 σ).bind fun r1 =>
  some r1
set_option maxRecDepth 100000 in
set_option maxHeartbeats 4000000 in
theorem lk_X2_readCurve_129 {G : mG} {x0 : Nat} {σ : mS} {R : mS} (hD : D_X2_readCurve_129 x0 σ = some R) : Ev G M_X2_readCurve 129 [(0, vr x0)] [] σ (.inl none) R := by
  unfold D_X2_readCurve_129 at hD
  refine ev_aload_n dX2_readCurve_129 0 rfl rfl ?_
  refine ev_bp dX2_readCurve_130 rfl ?_
  obtain ⟨_, g0, hD⟩ := bd hD
  obtain ⟨r1, g, hD⟩ := bd hD
  refine ew_callV0 (as := [vi 59]) (a := x0) (rest := []) dX2_readCurve_132 v_X2_readSign w_880 rfl (Nat.le_of_ble_eq_true rfl) rfl rfl g0 (Nat.le_of_ble_eq_true rfl) (Nat.le_of_ble_eq_true rfl) (ct_X2_readSign g) ?_
  cases hD
  exact ev_ret none dX2_readCurve_135 True.intro
def D_X2_readCurve_13 (x0 : Nat) (σ : mS) : Option mS :=
  (D_X2_readCurve_17 mFU x0 ((-1)) 0 σ).bind fun r1 =>
  match r1 with
  | (Sum.inl z2) =>
    D_X2_readCurve_129 x0 z2
  | (Sum.inr (Sum.inl z3)) =>
    (gI z3 x0 2 5).bind fun v4 =>
    (tgO z3 x0 2).bind fun _ =>
    (D_X2_fail x0 3 v4 z3).bind fun r5 =>
    D_X2_readCurve_129 x0 r5
  | (Sum.inr (Sum.inr z6)) =>
    D_X2_readCurve_129 x0 z6
set_option maxRecDepth 100000 in
set_option maxHeartbeats 4000000 in
theorem lk_X2_readCurve_13 {G : mG} {x0 : Nat} {σ : mS} {R : mS} (hD : D_X2_readCurve_13 x0 σ = some R) : Ev G M_X2_readCurve 13 [(0, vr x0)] [] σ (.inl none) R := by
  unfold D_X2_readCurve_13 at hD
  refine ev_iconst dX2_readCurve_13 (mi_c rfl) ?_
  refine ev_istore_n dX2_readCurve_14 rfl (Nat.le_of_ble_eq_true rfl) rfl ?_
  refine ev_iconst dX2_readCurve_15 (mi_c rfl) ?_
  refine ev_istore_n dX2_readCurve_16 rfl (Nat.le_of_ble_eq_true rfl) rfl ?_
  obtain ⟨r1, g, hD⟩ := bd hD
  refine Ev.pick [2, 1, 0] rfl ?_
  rcases r1 with z2 | z3 | z6
  · refine lk_X2_readCurve_17 mFU g ⟨(fun _ hz => ?_), (fun _ hz => nomatch hz), (fun _ hz => nomatch hz)⟩
    cases hz
    refine ev_goto (tgt := 129) dX2_readCurve_44 (by decide) ?_
    exact lk_X2_readCurve_129 hD
  · refine lk_X2_readCurve_17 mFU g ⟨(fun _ hz => nomatch hz), (fun _ hz => ?_), (fun _ hz => nomatch hz)⟩
    cases hz
    refine ev_aload_n dX2_readCurve_53 0 rfl rfl ?_
    refine ev_iconst dX2_readCurve_54 (mi_c rfl) ?_
    refine ev_aload_n dX2_readCurve_55 0 rfl rfl ?_
    obtain ⟨v4, g, hD⟩ := bd hD
    refine ew_getI 2 5 dX2_readCurve_56 rfl (Nat.le_of_ble_eq_true rfl) w_347 in_X2 rfl g ?_
    obtain ⟨_, g0, hD⟩ := bd hD
    obtain ⟨r5, g, hD⟩ := bd hD
    refine ew_callV0 (as := [vi 3, vi v4]) (a := x0) (rest := []) dX2_readCurve_59 v_X2_fail w_804 rfl (Nat.le_of_ble_eq_true rfl) rfl rfl g0 (Nat.le_of_ble_eq_true rfl) (Nat.le_of_ble_eq_true rfl) (ct_X2_fail g) ?_
    refine ev_goto (tgt := 129) dX2_readCurve_62 (by decide) ?_
    exact lk_X2_readCurve_129 hD
  · refine lk_X2_readCurve_17 mFU g ⟨(fun _ hz => nomatch hz), (fun _ hz => nomatch hz), (fun _ hz => ?_)⟩
    cases hz
    exact lk_X2_readCurve_129 hD
def D_X2_readCurve (x0 : Nat) (x1 : Int) (σ : mS) : Option mS :=
  if x1 ≠ 0 then
    D_X2_readCurve_13 x0 σ
  else
    (gI σ x0 2 6).bind fun v1 =>
    (tgO σ x0 2).bind fun _ =>
    (D_X2_fail x0 3 v1 σ).bind fun r2 =>
    D_X2_readCurve_13 x0 r2
set_option maxRecDepth 100000 in
set_option maxHeartbeats 4000000 in
theorem lk_X2_readCurve {G : mG} {x0 : Nat} {x1 : Int} {σ : mS} {R : mS} (hD : D_X2_readCurve x0 x1 σ = some R) : Ev G M_X2_readCurve 0 [(0, vr x0), (1, vi x1)] [] σ (.inl none) R := by
  unfold D_X2_readCurve at hD
  refine ev_iload_n dX2_readCurve_0 1 rfl rfl ?_
  by_cases c : x1 ≠ 0
  · rw [if_pos c] at hD
    refine ev_if_ne_t (tgt := 13) dX2_readCurve_1 (by decide) c ?_
    refine Ev.pick [0] rfl ?_
    exact lk_X2_readCurve_13 hD
  · rw [if_neg c] at hD
    refine ev_if_ne_f 13 dX2_readCurve_1 (by decide) c ?_
    refine ev_aload_n dX2_readCurve_4 0 rfl rfl ?_
    refine ev_iconst dX2_readCurve_5 (mi_c rfl) ?_
    refine ev_aload_n dX2_readCurve_6 0 rfl rfl ?_
    obtain ⟨v1, g, hD⟩ := bd hD
    refine ew_getI 2 6 dX2_readCurve_7 rfl (Nat.le_of_ble_eq_true rfl) w_348 in_X2 rfl g ?_
    obtain ⟨_, g0, hD⟩ := bd hD
    obtain ⟨r2, g, hD⟩ := bd hD
    refine ew_callV0 (as := [vi 3, vi v1]) (a := x0) (rest := []) dX2_readCurve_10 v_X2_fail w_804 rfl (Nat.le_of_ble_eq_true rfl) rfl rfl g0 (Nat.le_of_ble_eq_true rfl) (Nat.le_of_ble_eq_true rfl) (ct_X2_fail g) ?_
    refine Ev.pick [0] rfl ?_
    exact lk_X2_readCurve_13 hD
theorem ct_X2_readCurve {G : mG} {x0 : Nat} {x1 : Int} {σ : mS} {R : mS} (hD : D_X2_readCurve x0 x1 σ = some R) : Ct G M_X2_readCurve [vr x0, vi x1] σ (.inl none) R := ct_of rfl (by decide +kernel) rfl (Nat.le_of_ble_eq_true rfl) rfl (lk_X2_readCurve hD)
def D_X2_readName_31 : Nat → Nat → Int → Int → mS → Option Int
  | 0, _, _, _, _ => none
  | f + 1, x0, x1, x2, σ =>
    if 6 ≤ x2 then
      some x1
    else
      (gI σ x0 2 6).bind fun v1 =>
      (gI σ x0 2 7).bind fun v2 =>
      if v2 ≤ (mw (v1 + x2)) then
        some x1
      else
        (gR σ x0 2 3).bind fun v3 =>
        (gI σ x0 2 6).bind fun v4 =>
        (lI σ v3 (mw (v4 + x2))).bind fun v5 =>
        (D_X2_readName_31 f) x0 (mw ((mw ((mw ((mw (27 * x1)) + v5)) - 97)) + 1)) (mw (x2 + 1)) σ
set_option maxRecDepth 100000 in
set_option maxHeartbeats 4000000 in
theorem lk_X2_readName_31 {G : mG} (f : Nat) : ∀ {x0 : Nat} {x1 : Int} {x2 : Int} {σ : mS} {R : Int}, D_X2_readName_31 f x0 x1 x2 σ = some R → ∀ {r : mX} {τ : mS}, Ev G M_X2_readName 78 [(1, vi (R))] [] σ r τ → Ev G M_X2_readName 31 [(0, vr x0), (1, vi x1), (2, vi x2)] [] σ r τ := by
  induction f with
  | zero =>
    intros
    rename_i hD _ _ _
    cases hD
  | succ f ih =>
    intro x0 x1 x2 σ R hD r τ hk
    have hrec := @ih
    rw [D_X2_readName_31] at hD
    refine ev_iload_n dX2_readName_31 2 rfl rfl ?_
    refine ev_bp dX2_readName_32 rfl ?_
    by_cases c : 6 ≤ x2
    · rw [if_pos c] at hD
      refine ev_icmp_ge_t (tgt := 78) dX2_readName_34 (by decide) c ?_
      cases hD
      refine Ev.pick [1] rfl ?_
      exact hk
    · rw [if_neg c] at hD
      refine ev_icmp_ge_f 78 dX2_readName_34 (by decide) c ?_
      refine ev_aload_n dX2_readName_37 0 rfl rfl ?_
      obtain ⟨v1, g, hD⟩ := bd hD
      refine ew_getI 2 6 dX2_readName_38 rfl (Nat.le_of_ble_eq_true rfl) w_348 in_X2 rfl g ?_
      refine ev_iload_n dX2_readName_41 2 rfl rfl ?_
      refine ev_iadd dX2_readName_42 ?_
      refine ev_aload_n dX2_readName_43 0 rfl rfl ?_
      obtain ⟨v2, g, hD⟩ := bd hD
      refine ew_getI 2 7 dX2_readName_44 rfl (Nat.le_of_ble_eq_true rfl) w_349 in_X2 rfl g ?_
      by_cases c : v2 ≤ (mw (v1 + x2))
      · rw [if_pos c] at hD
        refine ev_icmp_ge_t (tgt := 78) dX2_readName_47 (by decide) c ?_
        cases hD
        refine Ev.pick [1] rfl ?_
        exact hk
      · rw [if_neg c] at hD
        refine ev_icmp_ge_f 78 dX2_readName_47 (by decide) c ?_
        refine ev_bp dX2_readName_50 rfl ?_
        refine ev_iload_n dX2_readName_52 1 rfl rfl ?_
        refine ev_imul dX2_readName_53 ?_
        refine ev_aload_n dX2_readName_54 0 rfl rfl ?_
        obtain ⟨v3, g, hD⟩ := bd hD
        refine ew_getR 2 3 dX2_readName_55 rfl (Nat.le_of_ble_eq_true rfl) w_345 in_X2 rfl g ?_
        refine ev_aload_n dX2_readName_58 0 rfl rfl ?_
        obtain ⟨v4, g, hD⟩ := bd hD
        refine ew_getI 2 6 dX2_readName_59 rfl (Nat.le_of_ble_eq_true rfl) w_348 in_X2 rfl g ?_
        refine ev_iload_n dX2_readName_62 2 rfl rfl ?_
        refine ev_iadd dX2_readName_63 ?_
        obtain ⟨v5, g, hD⟩ := bd hD
        refine ew_iald dX2_readName_64 g ?_
        refine ev_iadd dX2_readName_65 ?_
        refine ev_bp dX2_readName_66 rfl ?_
        refine ev_isub dX2_readName_68 ?_
        refine ev_iconst dX2_readName_69 (mi_c rfl) ?_
        refine ev_iadd dX2_readName_70 ?_
        refine ev_istore_n dX2_readName_71 rfl (Nat.le_of_ble_eq_true rfl) rfl ?_
        refine ev_iinc dX2_readName_72 2 rfl (Nat.le_of_ble_eq_true rfl) rfl ?_
        refine ev_goto (tgt := 31) dX2_readName_75 (by decide) ?_
        refine Ev.pick [2, 1, 0] rfl ?_
        exact hrec hD hk
def D_X2_readName_78 (x1 : Int) (σ : mS) : Option (Int × mS) :=
  some (x1, σ)
set_option maxRecDepth 100000 in
set_option maxHeartbeats 4000000 in
theorem lk_X2_readName_78 {G : mG} {x1 : Int} {σ : mS} {R : (Int × mS)} (hD : D_X2_readName_78 x1 σ = some R) : Ev G M_X2_readName 78 [(1, vi x1)] [] σ (.inl (some (vi R.1))) R.2 := by
  unfold D_X2_readName_78 at hD
  refine ev_iload_n dX2_readName_78 0 rfl rfl ?_
  cases hD
  exact ev_ret (some (vi _)) dX2_readName_79 True.intro
def D_X2_readName_27 (x0 : Nat) (σ : mS) : Option (Int × mS) :=
  (D_X2_readName_31 mFU x0 0 0 σ).bind fun r1 =>
  D_X2_readName_78 r1 σ
set_option maxRecDepth 100000 in
set_option maxHeartbeats 4000000 in
theorem lk_X2_readName_27 {G : mG} {x0 : Nat} {σ : mS} {R : (Int × mS)} (hD : D_X2_readName_27 x0 σ = some R) : Ev G M_X2_readName 27 [(0, vr x0)] [] σ (.inl (some (vi R.1))) R.2 := by
  unfold D_X2_readName_27 at hD
  refine ev_iconst dX2_readName_27 (mi_c rfl) ?_
  refine ev_istore_n dX2_readName_28 rfl (Nat.le_of_ble_eq_true rfl) rfl ?_
  refine ev_iconst dX2_readName_29 (mi_c rfl) ?_
  refine ev_istore_n dX2_readName_30 rfl (Nat.le_of_ble_eq_true rfl) rfl ?_
  obtain ⟨r1, g, hD⟩ := bd hD
  refine Ev.pick [2, 1, 0] rfl ?_
  refine lk_X2_readName_31 mFU g ?_
  exact lk_X2_readName_78 hD
def D_X2_readName (x0 : Nat) (σ : mS) : Option (Int × mS) :=
  (tgO σ x0 2).bind fun _ =>
  (D_X2_readWord x0 σ).bind fun r1 =>
  (gI r1 x0 2 7).bind fun v2 =>
  (gI r1 x0 2 6).bind fun v3 =>
  if (mw (v2 - v3)) ≤ 6 then
    D_X2_readName_27 x0 r1
  else
    (gI r1 x0 2 6).bind fun v4 =>
    (tgO r1 x0 2).bind fun _ =>
    (D_X2_fail x0 1 v4 r1).bind fun r5 =>
    D_X2_readName_27 x0 r5
set_option maxRecDepth 100000 in
set_option maxHeartbeats 4000000 in
theorem lk_X2_readName {G : mG} {x0 : Nat} {σ : mS} {R : (Int × mS)} (hD : D_X2_readName x0 σ = some R) : Ev G M_X2_readName 0 [(0, vr x0)] [] σ (.inl (some (vi R.1))) R.2 := by
  unfold D_X2_readName at hD
  refine ev_aload_n dX2_readName_0 0 rfl rfl ?_
  obtain ⟨_, g0, hD⟩ := bd hD
  obtain ⟨r1, g, hD⟩ := bd hD
  refine ew_callV0 (as := []) (a := x0) (rest := []) dX2_readName_1 v_X2_readWord w_793 rfl (Nat.le_of_ble_eq_true rfl) rfl rfl g0 (Nat.le_of_ble_eq_true rfl) (Nat.le_of_ble_eq_true rfl) (ct_X2_readWord g) ?_
  refine ev_aload_n dX2_readName_4 0 rfl rfl ?_
  obtain ⟨v2, g, hD⟩ := bd hD
  refine ew_getI 2 7 dX2_readName_5 rfl (Nat.le_of_ble_eq_true rfl) w_349 in_X2 rfl g ?_
  refine ev_aload_n dX2_readName_8 0 rfl rfl ?_
  obtain ⟨v3, g, hD⟩ := bd hD
  refine ew_getI 2 6 dX2_readName_9 rfl (Nat.le_of_ble_eq_true rfl) w_348 in_X2 rfl g ?_
  refine ev_isub dX2_readName_12 ?_
  refine ev_bp dX2_readName_13 rfl ?_
  by_cases c : (mw (v2 - v3)) ≤ 6
  · rw [if_pos c] at hD
    refine ev_icmp_le_t (tgt := 27) dX2_readName_15 (by decide) c ?_
    exact lk_X2_readName_27 hD
  · rw [if_neg c] at hD
    refine ev_icmp_le_f 27 dX2_readName_15 (by decide) c ?_
    refine ev_aload_n dX2_readName_18 0 rfl rfl ?_
    refine ev_iconst dX2_readName_19 (mi_c rfl) ?_
    refine ev_aload_n dX2_readName_20 0 rfl rfl ?_
    obtain ⟨v4, g, hD⟩ := bd hD
    refine ew_getI 2 6 dX2_readName_21 rfl (Nat.le_of_ble_eq_true rfl) w_348 in_X2 rfl g ?_
    obtain ⟨_, g0, hD⟩ := bd hD
    obtain ⟨r5, g, hD⟩ := bd hD
    refine ew_callV0 (as := [vi 1, vi v4]) (a := x0) (rest := []) dX2_readName_24 v_X2_fail w_804 rfl (Nat.le_of_ble_eq_true rfl) rfl rfl g0 (Nat.le_of_ble_eq_true rfl) (Nat.le_of_ble_eq_true rfl) (ct_X2_fail g) ?_
    exact lk_X2_readName_27 hD
theorem ct_X2_readName {G : mG} {x0 : Nat} {σ : mS} {R : (Int × mS)} (hD : D_X2_readName x0 σ = some R) : Ct G M_X2_readName [vr x0] σ (.inl (some (vi R.1))) R.2 := ct_of rfl (by decide +kernel) rfl (Nat.le_of_ble_eq_true rfl) rfl (lk_X2_readName hD)
def D_X2_numberOf_2 : Nat → Int → Nat → Int → Int → mS → Option (Unit ⊕ Int)
  | 0, _, _, _, _, _ => none
  | f + 1, x0, x1, x2, x3, σ =>
    if x2 ≤ x3 then
      some (Sum.inl ())
    else
      (lI σ x1 x3).bind fun v1 =>
      if v1 ≠ x0 then
        (D_X2_numberOf_2 f) x0 x1 x2 (mw (x3 + 1)) σ
      else
        some (Sum.inr x3)
set_option maxRecDepth 100000 in
set_option maxHeartbeats 4000000 in
theorem lk_X2_numberOf_2 {G : mG} (f : Nat) : ∀ {x0 : Int} {x1 : Nat} {x2 : Int} {x3 : Int} {σ : mS} {R : (Unit ⊕ Int)}, D_X2_numberOf_2 f x0 x1 x2 x3 σ = some R → ∀ {r : mX} {τ : mS}, (∀ z, R = (Sum.inl z) → Ev G M_X2_numberOf 22 [] [] σ r τ) ∧ (∀ z, R = (Sum.inr z) → r = .inl (some (vi z)) ∧ τ = σ) → Ev G M_X2_numberOf 2 [(0, vi x0), (1, vr x1), (2, vi x2), (3, vi x3)] [] σ r τ := by
  induction f with
  | zero =>
    intros
    rename_i hD _ _ _
    cases hD
  | succ f ih =>
    intro x0 x1 x2 x3 σ R hD r τ hk
    have hrec := @ih
    rw [D_X2_numberOf_2] at hD
    refine ev_iload_n dX2_numberOf_2 3 rfl rfl ?_
    refine ev_iload_n dX2_numberOf_3 2 rfl rfl ?_
    by_cases c : x2 ≤ x3
    · rw [if_pos c] at hD
      refine ev_icmp_ge_t (tgt := 22) dX2_numberOf_4 (by decide) c ?_
      cases hD
      refine Ev.pick [] rfl ?_
      exact hk.1 _ rfl
    · rw [if_neg c] at hD
      refine ev_icmp_ge_f 22 dX2_numberOf_4 (by decide) c ?_
      refine ev_aload_n dX2_numberOf_7 1 rfl rfl ?_
      refine ev_iload_n dX2_numberOf_8 3 rfl rfl ?_
      obtain ⟨v1, g, hD⟩ := bd hD
      refine ew_iald dX2_numberOf_9 g ?_
      refine ev_iload_n dX2_numberOf_10 0 rfl rfl ?_
      by_cases c : v1 ≠ x0
      · rw [if_pos c] at hD
        refine ev_icmp_ne_t (tgt := 16) dX2_numberOf_11 (by decide) c ?_
        refine ev_iinc dX2_numberOf_16 3 rfl (Nat.le_of_ble_eq_true rfl) rfl ?_
        refine ev_goto (tgt := 2) dX2_numberOf_19 (by decide) ?_
        refine Ev.pick [1, 2, 3, 0] rfl ?_
        exact hrec hD hk
      · rw [if_neg c] at hD
        refine ev_icmp_ne_f 16 dX2_numberOf_11 (by decide) c ?_
        refine ev_iload_n dX2_numberOf_14 3 rfl rfl ?_
        cases hD
        obtain ⟨rfl, rfl⟩ := hk.2 _ rfl
        exact ev_ret (some (vi _)) dX2_numberOf_15 True.intro
def D_X2_numberOf (x0 : Int) (x1 : Nat) (x2 : Int) (σ : mS) : Option Int :=
  (D_X2_numberOf_2 mFU x0 x1 x2 0 σ).bind fun r1 =>
  match r1 with
  | (Sum.inl z2) =>
    some ((-1))
  | (Sum.inr z3) =>
    some z3
set_option maxRecDepth 100000 in
set_option maxHeartbeats 4000000 in
theorem lk_X2_numberOf {G : mG} {x0 : Int} {x1 : Nat} {x2 : Int} {σ : mS} {R : Int} (hD : D_X2_numberOf x0 x1 x2 σ = some R) : Ev G M_X2_numberOf 0 [(0, vi x0), (1, vr x1), (2, vi x2)] [] σ (.inl (some (vi R))) σ := by
  unfold D_X2_numberOf at hD
  refine ev_iconst dX2_numberOf_0 (mi_c rfl) ?_
  refine ev_istore_n dX2_numberOf_1 rfl (Nat.le_of_ble_eq_true rfl) rfl ?_
  obtain ⟨r1, g, hD⟩ := bd hD
  refine Ev.pick [1, 2, 3, 0] rfl ?_
  rcases r1 with z2 | z3
  · refine lk_X2_numberOf_2 mFU g ⟨(fun _ hz => ?_), (fun _ hz => nomatch hz)⟩
    cases hz
    refine ev_iconst dX2_numberOf_22 (mi_c rfl) ?_
    cases hD
    exact ev_ret (some (vi _)) dX2_numberOf_23 True.intro
  · refine lk_X2_numberOf_2 mFU g ⟨(fun _ hz => nomatch hz), (fun _ hz => ?_)⟩
    cases hz
    cases hD
    exact ⟨rfl, rfl⟩
theorem ct_X2_numberOf {G : mG} {x0 : Int} {x1 : Nat} {x2 : Int} {σ : mS} {R : Int} (hD : D_X2_numberOf x0 x1 x2 σ = some R) : Ct G M_X2_numberOf [vi x0, vr x1, vi x2] σ (.inl (some (vi R))) σ := ct_of rfl (by decide +kernel) rfl (Nat.le_of_ble_eq_true rfl) rfl (lk_X2_numberOf hD)
def D_X2_readNewName_52 (x1 : Int) (σ : mS) : Option (Int × mS) :=
  some (x1, σ)
set_option maxRecDepth 100000 in
set_option maxHeartbeats 4000000 in
theorem lk_X2_readNewName_52 {G : mG} {x1 : Int} {σ : mS} {R : (Int × mS)} (hD : D_X2_readNewName_52 x1 σ = some R) : Ev G M_X2_readNewName 52 [(1, vi x1)] [] σ (.inl (some (vi R.1))) R.2 := by
  unfold D_X2_readNewName_52 at hD
  refine ev_iload_n dX2_readNewName_52 0 rfl rfl ?_
  cases hD
  exact ev_ret (some (vi _)) dX2_readNewName_53 True.intro
def D_X2_readNewName_43 (x0 : Nat) (x1 : Int) (σ : mS) : Option (Int × mS) :=
  (gI σ x0 2 6).bind fun v1 =>
  (tgO σ x0 2).bind fun _ =>
  (D_X2_fail x0 4 v1 σ).bind fun r2 =>
  D_X2_readNewName_52 x1 r2
set_option maxRecDepth 100000 in
set_option maxHeartbeats 4000000 in
theorem lk_X2_readNewName_43 {G : mG} {x0 : Nat} {x1 : Int} {σ : mS} {R : (Int × mS)} (hD : D_X2_readNewName_43 x0 x1 σ = some R) : Ev G M_X2_readNewName 43 [(0, vr x0), (1, vi x1)] [] σ (.inl (some (vi R.1))) R.2 := by
  unfold D_X2_readNewName_43 at hD
  refine ev_aload_n dX2_readNewName_43 0 rfl rfl ?_
  refine ev_iconst dX2_readNewName_44 (mi_c rfl) ?_
  refine ev_aload_n dX2_readNewName_45 0 rfl rfl ?_
  obtain ⟨v1, g, hD⟩ := bd hD
  refine ew_getI 2 6 dX2_readNewName_46 rfl (Nat.le_of_ble_eq_true rfl) w_348 in_X2 rfl g ?_
  obtain ⟨_, g0, hD⟩ := bd hD
  obtain ⟨r2, g, hD⟩ := bd hD
  refine ew_callV0 (as := [vi 4, vi v1]) (a := x0) (rest := []) dX2_readNewName_49 v_X2_fail w_804 rfl (Nat.le_of_ble_eq_true rfl) rfl rfl g0 (Nat.le_of_ble_eq_true rfl) (Nat.le_of_ble_eq_true rfl) (ct_X2_fail g) ?_
  refine Ev.pick [1] rfl ?_
  exact lk_X2_readNewName_52 hD
def D_X2_readNewName (x0 : Nat) (σ : mS) : Option (Int × mS) :=
  (tgO σ x0 2).bind fun _ =>
  (D_X2_readName x0 σ).bind fun r1 =>
  (gR r1.2 x0 2 10).bind fun v2 =>
  (gR r1.2 x0 2 0).bind fun v3 =>
  (gI r1.2 v3 5 3).bind fun v4 =>
  (D_X2_numberOf r1.1 v2 v4 r1.2).bind fun r5 =>
  if r5 ≠ ((-1)) then
    D_X2_readNewName_43 x0 r1.1 r1.2
  else
    (gR r1.2 x0 2 11).bind fun v6 =>
    (gR r1.2 x0 2 0).bind fun v7 =>
    (gI r1.2 v7 5 4).bind fun v8 =>
    (D_X2_numberOf r1.1 v6 v8 r1.2).bind fun r9 =>
    if r9 = ((-1)) then
      D_X2_readNewName_52 r1.1 r1.2
    else
      D_X2_readNewName_43 x0 r1.1 r1.2
set_option maxRecDepth 100000 in
set_option maxHeartbeats 4000000 in
theorem lk_X2_readNewName {G : mG} {x0 : Nat} {σ : mS} {R : (Int × mS)} (hD : D_X2_readNewName x0 σ = some R) : Ev G M_X2_readNewName 0 [(0, vr x0)] [] σ (.inl (some (vi R.1))) R.2 := by
  unfold D_X2_readNewName at hD
  refine ev_aload_n dX2_readNewName_0 0 rfl rfl ?_
  obtain ⟨_, g0, hD⟩ := bd hD
  obtain ⟨r1, g, hD⟩ := bd hD
  refine ew_callVv (as := []) (a := x0) (rest := []) dX2_readNewName_1 v_X2_readName w_900 rfl (Nat.le_of_ble_eq_true rfl) rfl rfl g0 (Nat.le_of_ble_eq_true rfl) (Nat.le_of_ble_eq_true rfl) (ct_X2_readName g) ?_
  refine ev_istore_n dX2_readNewName_4 rfl (Nat.le_of_ble_eq_true rfl) rfl ?_
  refine ev_iload_n dX2_readNewName_5 0 rfl rfl ?_
  refine ev_aload_n dX2_readNewName_6 1 rfl rfl ?_
  obtain ⟨v2, g, hD⟩ := bd hD
  refine ew_getR 2 10 dX2_readNewName_7 rfl (Nat.le_of_ble_eq_true rfl) w_352 in_X2 rfl g ?_
  refine ev_aload_n dX2_readNewName_10 1 rfl rfl ?_
  obtain ⟨v3, g, hD⟩ := bd hD
  refine ew_getR 2 0 dX2_readNewName_11 rfl (Nat.le_of_ble_eq_true rfl) w_339 in_X2 rfl g ?_
  obtain ⟨v4, g, hD⟩ := bd hD
  refine ew_getI 5 3 dX2_readNewName_14 rfl (Nat.le_of_ble_eq_true rfl) w_279 in_X5 rfl g ?_
  obtain ⟨r5, g, hD⟩ := bd hD
  refine ew_callSv (as := [vi r1.1, vr v2, vi v4]) (rest := []) dX2_readNewName_17 v_X2_numberOf w_904 rfl (Nat.le_of_ble_eq_true rfl) (Nat.le_of_ble_eq_true rfl) (Nat.le_of_ble_eq_true rfl) (ct_X2_numberOf g) ?_
  refine ev_iconst dX2_readNewName_20 (mi_c rfl) ?_
  by_cases c : r5 ≠ ((-1))
  · rw [if_pos c] at hD
    refine ev_icmp_ne_t (tgt := 43) dX2_readNewName_21 (by decide) c ?_
    refine Ev.pick [1, 0] rfl ?_
    exact lk_X2_readNewName_43 hD
  · rw [if_neg c] at hD
    refine ev_icmp_ne_f 43 dX2_readNewName_21 (by decide) c ?_
    refine ev_iload_n dX2_readNewName_24 0 rfl rfl ?_
    refine ev_aload_n dX2_readNewName_25 1 rfl rfl ?_
    obtain ⟨v6, g, hD⟩ := bd hD
    refine ew_getR 2 11 dX2_readNewName_26 rfl (Nat.le_of_ble_eq_true rfl) w_353 in_X2 rfl g ?_
    refine ev_aload_n dX2_readNewName_29 1 rfl rfl ?_
    obtain ⟨v7, g, hD⟩ := bd hD
    refine ew_getR 2 0 dX2_readNewName_30 rfl (Nat.le_of_ble_eq_true rfl) w_339 in_X2 rfl g ?_
    obtain ⟨v8, g, hD⟩ := bd hD
    refine ew_getI 5 4 dX2_readNewName_33 rfl (Nat.le_of_ble_eq_true rfl) w_281 in_X5 rfl g ?_
    obtain ⟨r9, g, hD⟩ := bd hD
    refine ew_callSv (as := [vi r1.1, vr v6, vi v8]) (rest := []) dX2_readNewName_36 v_X2_numberOf w_904 rfl (Nat.le_of_ble_eq_true rfl) (Nat.le_of_ble_eq_true rfl) (Nat.le_of_ble_eq_true rfl) (ct_X2_numberOf g) ?_
    refine ev_iconst dX2_readNewName_39 (mi_c rfl) ?_
    by_cases c : r9 = ((-1))
    · rw [if_pos c] at hD
      refine ev_icmp_eq_t (tgt := 52) dX2_readNewName_40 (by decide) c ?_
      refine Ev.pick [0] rfl ?_
      exact lk_X2_readNewName_52 hD
    · rw [if_neg c] at hD
      refine ev_icmp_eq_f 52 dX2_readNewName_40 (by decide) c ?_
      refine Ev.pick [1, 0] rfl ?_
      exact lk_X2_readNewName_43 hD
theorem ct_X2_readNewName {G : mG} {x0 : Nat} {σ : mS} {R : (Int × mS)} (hD : D_X2_readNewName x0 σ = some R) : Ct G M_X2_readNewName [vr x0] σ (.inl (some (vi R.1))) R.2 := ct_of rfl (by decide +kernel) rfl (Nat.le_of_ble_eq_true rfl) rfl (lk_X2_readNewName hD)
def D_X2_readSample (x0 : Nat) (σ : mS) : Option mS :=
  (gR σ x0 2 0).bind fun v1 =>
  (gI σ v1 5 3).bind fun v2 =>
  if v2 < 12 then
    (tgO σ x0 2).bind fun _ =>
    (D_X2_readNewName x0 σ).bind fun r3 =>
    (tgO r3.2 x0 2).bind fun _ =>
    (D_X2_readNumber x0 0 9999 r3.2).bind fun r4 =>
    (tgO r4.2 x0 2).bind fun _ =>
    (D_X2_readNumber x0 0 999 r4.2).bind fun r5 =>
    (tgO r5.2 x0 2).bind fun _ =>
    (D_X2_readSign x0 59 r5.2).bind fun r6 =>
    (gR r6 x0 2 0).bind fun v7 =>
    (gR r6 v7 5 8).bind fun v8 =>
    (gR r6 x0 2 0).bind fun v9 =>
    (gI r6 v9 5 3).bind fun v10 =>
    (lR r6 v8 v10).bind fun v11 =>
    (pB r6 v11 4 0 0).bind fun s12 =>
    (pI s12 v11 4 1 r4.1).bind fun s13 =>
    (pI s13 v11 4 2 r5.1).bind fun s14 =>
    (gR s14 x0 2 10).bind fun v15 =>
    (gR s14 x0 2 0).bind fun v16 =>
    (gI s14 v16 5 3).bind fun v17 =>
    (sI s14 v15 v17 r3.1).bind fun s18 =>
    (gR s18 x0 2 0).bind fun v19 =>
    (gI s18 v19 5 3).bind fun v20 =>
    (pI s18 v19 5 3 (mw (v20 + 1))).bind fun s21 =>
    some s21
  else
    (gI σ x0 2 6).bind fun v22 =>
    (tgO σ x0 2).bind fun _ =>
    (D_X2_fail x0 3 v22 σ).bind fun r23 =>
    some r23
set_option maxRecDepth 100000 in
set_option maxHeartbeats 4000000 in
theorem lk_X2_readSample {G : mG} {x0 : Nat} {σ : mS} {R : mS} (hD : D_X2_readSample x0 σ = some R) : Ev G M_X2_readSample 0 [(0, vr x0)] [] σ (.inl none) R := by
  unfold D_X2_readSample at hD
  refine ev_aload_n dX2_readSample_0 0 rfl rfl ?_
  obtain ⟨v1, g, hD⟩ := bd hD
  refine ew_getR 2 0 dX2_readSample_1 rfl (Nat.le_of_ble_eq_true rfl) w_339 in_X2 rfl g ?_
  obtain ⟨v2, g, hD⟩ := bd hD
  refine ew_getI 5 3 dX2_readSample_4 rfl (Nat.le_of_ble_eq_true rfl) w_279 in_X5 rfl g ?_
  refine ev_bp dX2_readSample_7 rfl ?_
  by_cases c : v2 < 12
  · rw [if_pos c] at hD
    refine ev_icmp_lt_t (tgt := 22) dX2_readSample_9 (by decide) c ?_
    refine ev_aload_n dX2_readSample_22 0 rfl rfl ?_
    obtain ⟨_, g0, hD⟩ := bd hD
    obtain ⟨r3, g, hD⟩ := bd hD
    refine ew_callVv (as := []) (a := x0) (rest := []) dX2_readSample_23 v_X2_readNewName w_896 rfl (Nat.le_of_ble_eq_true rfl) rfl rfl g0 (Nat.le_of_ble_eq_true rfl) (Nat.le_of_ble_eq_true rfl) (ct_X2_readNewName g) ?_
    refine ev_istore_n dX2_readSample_26 rfl (Nat.le_of_ble_eq_true rfl) rfl ?_
    refine ev_aload_n dX2_readSample_27 1 rfl rfl ?_
    refine ev_iconst dX2_readSample_28 (mi_c rfl) ?_
    refine ev_sp dX2_readSample_29 rfl ?_
    obtain ⟨_, g0, hD⟩ := bd hD
    obtain ⟨r4, g, hD⟩ := bd hD
    refine ew_callVv (as := [vi 0, vi 9999]) (a := x0) (rest := []) dX2_readSample_32 v_X2_readNumber w_884 rfl (Nat.le_of_ble_eq_true rfl) rfl rfl g0 (Nat.le_of_ble_eq_true rfl) (Nat.le_of_ble_eq_true rfl) (ct_X2_readNumber g) ?_
    refine ev_istore_n dX2_readSample_35 rfl (Nat.le_of_ble_eq_true rfl) rfl ?_
    refine ev_aload_n dX2_readSample_36 2 rfl rfl ?_
    refine ev_iconst dX2_readSample_37 (mi_c rfl) ?_
    refine ev_sp dX2_readSample_38 rfl ?_
    obtain ⟨_, g0, hD⟩ := bd hD
    obtain ⟨r5, g, hD⟩ := bd hD
    refine ew_callVv (as := [vi 0, vi 999]) (a := x0) (rest := []) dX2_readSample_41 v_X2_readNumber w_884 rfl (Nat.le_of_ble_eq_true rfl) rfl rfl g0 (Nat.le_of_ble_eq_true rfl) (Nat.le_of_ble_eq_true rfl) (ct_X2_readNumber g) ?_
    refine ev_istore_n dX2_readSample_44 rfl (Nat.le_of_ble_eq_true rfl) rfl ?_
    refine ev_aload_n dX2_readSample_45 3 rfl rfl ?_
    refine ev_bp dX2_readSample_46 rfl ?_
    obtain ⟨_, g0, hD⟩ := bd hD
    obtain ⟨r6, g, hD⟩ := bd hD
    refine ew_callV0 (as := [vi 59]) (a := x0) (rest := []) dX2_readSample_48 v_X2_readSign w_880 rfl (Nat.le_of_ble_eq_true rfl) rfl rfl g0 (Nat.le_of_ble_eq_true rfl) (Nat.le_of_ble_eq_true rfl) (ct_X2_readSign g) ?_
    refine ev_aload_n dX2_readSample_51 3 rfl rfl ?_
    obtain ⟨v7, g, hD⟩ := bd hD
    refine ew_getR 2 0 dX2_readSample_52 rfl (Nat.le_of_ble_eq_true rfl) w_339 in_X2 rfl g ?_
    obtain ⟨v8, g, hD⟩ := bd hD
    refine ew_getR 5 8 dX2_readSample_55 rfl (Nat.le_of_ble_eq_true rfl) w_297 in_X5 rfl g ?_
    refine ev_aload_n dX2_readSample_58 3 rfl rfl ?_
    obtain ⟨v9, g, hD⟩ := bd hD
    refine ew_getR 2 0 dX2_readSample_59 rfl (Nat.le_of_ble_eq_true rfl) w_339 in_X2 rfl g ?_
    obtain ⟨v10, g, hD⟩ := bd hD
    refine ew_getI 5 3 dX2_readSample_62 rfl (Nat.le_of_ble_eq_true rfl) w_279 in_X5 rfl g ?_
    obtain ⟨v11, g, hD⟩ := bd hD
    refine ew_aald dX2_readSample_65 g ?_
    refine ev_astore dX2_readSample_66 (Nat.le_of_ble_eq_true rfl) rfl ?_
    refine ev_aload dX2_readSample_68 0 rfl ?_
    refine ev_iconst dX2_readSample_70 (mi_c rfl) ?_
    obtain ⟨s12, g, hD⟩ := bd hD
    refine ew_putB 4 0 dX2_readSample_71 rfl (Nat.le_of_ble_eq_true rfl) w_177 in_X4 tyX4_ok nmX4 (Or.inl rfl) rfl g ?_
    refine ev_aload dX2_readSample_74 0 rfl ?_
    refine ev_iload_n dX2_readSample_76 2 rfl rfl ?_
    obtain ⟨s13, g, hD⟩ := bd hD
    refine ew_putI 4 1 dX2_readSample_77 rfl (Nat.le_of_ble_eq_true rfl) w_181 in_X4 tyX4_ok nmX4 (Or.inl rfl) rfl g ?_
    refine ev_aload dX2_readSample_80 0 rfl ?_
    refine ev_iload_n dX2_readSample_82 1 rfl rfl ?_
    obtain ⟨s14, g, hD⟩ := bd hD
    refine ew_putI 4 2 dX2_readSample_83 rfl (Nat.le_of_ble_eq_true rfl) w_185 in_X4 tyX4_ok nmX4 (Or.inl rfl) rfl g ?_
    refine ev_aload_n dX2_readSample_86 4 rfl rfl ?_
    obtain ⟨v15, g, hD⟩ := bd hD
    refine ew_getR 2 10 dX2_readSample_87 rfl (Nat.le_of_ble_eq_true rfl) w_352 in_X2 rfl g ?_
    refine ev_aload_n dX2_readSample_90 4 rfl rfl ?_
    obtain ⟨v16, g, hD⟩ := bd hD
    refine ew_getR 2 0 dX2_readSample_91 rfl (Nat.le_of_ble_eq_true rfl) w_339 in_X2 rfl g ?_
    obtain ⟨v17, g, hD⟩ := bd hD
    refine ew_getI 5 3 dX2_readSample_94 rfl (Nat.le_of_ble_eq_true rfl) w_279 in_X5 rfl g ?_
    refine ev_iload_n dX2_readSample_97 3 rfl rfl ?_
    obtain ⟨s18, g, hD⟩ := bd hD
    refine ew_iast dX2_readSample_98 g ?_
    refine ev_aload_n dX2_readSample_99 4 rfl rfl ?_
    obtain ⟨v19, g, hD⟩ := bd hD
    refine ew_getR 2 0 dX2_readSample_100 rfl (Nat.le_of_ble_eq_true rfl) w_339 in_X2 rfl g ?_
    refine ev_dup dX2_readSample_103 rfl ?_
    obtain ⟨v20, g, hD⟩ := bd hD
    refine ew_getI 5 3 dX2_readSample_104 rfl (Nat.le_of_ble_eq_true rfl) w_279 in_X5 rfl g ?_
    refine ev_iconst dX2_readSample_107 (mi_c rfl) ?_
    refine ev_iadd dX2_readSample_108 ?_
    obtain ⟨s21, g, hD⟩ := bd hD
    refine ew_putI 5 3 dX2_readSample_109 rfl (Nat.le_of_ble_eq_true rfl) w_279 in_X5 tyX5_ok nmX5 (Or.inl rfl) rfl g ?_
    cases hD
    exact ev_ret none dX2_readSample_112 True.intro
  · rw [if_neg c] at hD
    refine ev_icmp_lt_f 22 dX2_readSample_9 (by decide) c ?_
    refine ev_aload_n dX2_readSample_12 0 rfl rfl ?_
    refine ev_iconst dX2_readSample_13 (mi_c rfl) ?_
    refine ev_aload_n dX2_readSample_14 0 rfl rfl ?_
    obtain ⟨v22, g, hD⟩ := bd hD
    refine ew_getI 2 6 dX2_readSample_15 rfl (Nat.le_of_ble_eq_true rfl) w_348 in_X2 rfl g ?_
    obtain ⟨_, g0, hD⟩ := bd hD
    obtain ⟨r23, g, hD⟩ := bd hD
    refine ew_callV0 (as := [vi 3, vi v22]) (a := x0) (rest := []) dX2_readSample_18 v_X2_fail w_804 rfl (Nat.le_of_ble_eq_true rfl) rfl rfl g0 (Nat.le_of_ble_eq_true rfl) (Nat.le_of_ble_eq_true rfl) (ct_X2_fail g) ?_
    cases hD
    exact ev_ret none dX2_readSample_21 True.intro
theorem ct_X2_readSample {G : mG} {x0 : Nat} {σ : mS} {R : mS} (hD : D_X2_readSample x0 σ = some R) : Ct G M_X2_readSample [vr x0] σ (.inl none) R := ct_of rfl (by decide +kernel) rfl (Nat.le_of_ble_eq_true rfl) rfl (lk_X2_readSample hD)
def D_X2_readRings_127 (rec : Nat → Nat → Int → Int → mS → Option (mS ⊕ mS ⊕ mS)) (x0 : Nat) (x1 : Nat) (x3 : Int) (x4 : Int) (σ : mS) : Option (mS ⊕ mS ⊕ mS) :=
  (tgO σ x0 2).bind fun _ =>
  (D_X2_readNumber x0 (mw (x3 + 1)) 300 σ).bind fun r1 =>
  (gR r1.2 x1 4 3).bind fun v2 =>
  (sI r1.2 v2 x4 r1.1).bind fun s3 =>
  (gR s3 x1 4 4).bind fun v4 =>
  (tgO s3 x0 2).bind fun _ =>
  (D_X2_readNumber x0 0 9999 s3).bind fun r5 =>
  (sI r5.2 v4 x4 r5.1).bind fun s6 =>
  (pI s6 x1 4 2 (mw (x4 + 1))).bind fun s7 =>
  rec x0 x1 r1.1 (mw (x4 + 1)) s7
set_option maxRecDepth 100000 in
set_option maxHeartbeats 4000000 in
theorem lk_X2_readRings_127 {G : mG} {rec : Nat → Nat → Int → Int → mS → Option (mS ⊕ mS ⊕ mS)} {x0 : Nat} {x1 : Nat} {x2 : Int} {x3 : Int} {x4 : Int} {σ : mS} {R : (mS ⊕ mS ⊕ mS)} {r : mX} {τ : mS} (hD : D_X2_readRings_127 rec x0 x1 x3 x4 σ = some R) (hrec : ∀ {x0 : Nat} {x1 : Nat} {x3 : Int} {x4 : Int} {σ : mS} {R : (mS ⊕ mS ⊕ mS)}, rec x0 x1 x3 x4 σ = some R → ∀ {r : mX} {τ : mS}, (∀ z, R = (Sum.inl z) → Ev G M_X2_readRings 94 [(0, vr x0), (2, vi x2)] [] z r τ) ∧ (∀ z, R = (Sum.inr (Sum.inl z)) → Ev G M_X2_readRings 104 [(0, vr x0), (2, vi x2)] [] z r τ) ∧ (∀ z, R = (Sum.inr (Sum.inr z)) → Ev G M_X2_readRings 175 [(0, vr x0), (2, vi x2)] [] z r τ) → Ev G M_X2_readRings 65 [(0, vr x0), (1, vr x1), (2, vi x2), (3, vi x3), (4, vi x4)] [] σ r τ) (hk : (∀ z, R = (Sum.inl z) → Ev G M_X2_readRings 94 [(0, vr x0), (2, vi x2)] [] z r τ) ∧ (∀ z, R = (Sum.inr (Sum.inl z)) → Ev G M_X2_readRings 104 [(0, vr x0), (2, vi x2)] [] z r τ) ∧ (∀ z, R = (Sum.inr (Sum.inr z)) → Ev G M_X2_readRings 175 [(0, vr x0), (2, vi x2)] [] z r τ)) : Ev G M_X2_readRings 127 [(0, vr x0), (1, vr x1), (2, vi x2), (3, vi x3), (4, vi x4)] [] σ r τ := by
  unfold D_X2_readRings_127 at hD
  refine ev_aload_n dX2_readRings_127 0 rfl rfl ?_
  refine ev_iload_n dX2_readRings_128 3 rfl rfl ?_
  refine ev_iconst dX2_readRings_129 (mi_c rfl) ?_
  refine ev_iadd dX2_readRings_130 ?_
  refine ev_sp dX2_readRings_131 rfl ?_
  obtain ⟨_, g0, hD⟩ := bd hD
  obtain ⟨r1, g, hD⟩ := bd hD
  refine ew_callVv (as := [vi (mw (x3 + 1)), vi 300]) (a := x0) (rest := []) dX2_readRings_134 v_X2_readNumber w_884 rfl (Nat.le_of_ble_eq_true rfl) rfl rfl g0 (Nat.le_of_ble_eq_true rfl) (Nat.le_of_ble_eq_true rfl) (ct_X2_readNumber g) ?_
  refine ev_istore_n dX2_readRings_137 rfl (Nat.le_of_ble_eq_true rfl) rfl ?_
  refine ev_aload_n dX2_readRings_138 2 rfl rfl ?_
  obtain ⟨v2, g, hD⟩ := bd hD
  refine ew_getR 4 3 dX2_readRings_139 rfl (Nat.le_of_ble_eq_true rfl) w_188 in_X4 rfl g ?_
  refine ev_iload dX2_readRings_142 4 rfl ?_
  refine ev_iload_n dX2_readRings_144 0 rfl rfl ?_
  obtain ⟨s3, g, hD⟩ := bd hD
  refine ew_iast dX2_readRings_145 g ?_
  refine ev_aload_n dX2_readRings_146 2 rfl rfl ?_
  obtain ⟨v4, g, hD⟩ := bd hD
  refine ew_getR 4 4 dX2_readRings_147 rfl (Nat.le_of_ble_eq_true rfl) w_191 in_X4 rfl g ?_
  refine ev_iload dX2_readRings_150 4 rfl ?_
  refine ev_aload_n dX2_readRings_152 1 rfl rfl ?_
  refine ev_iconst dX2_readRings_153 (mi_c rfl) ?_
  refine ev_sp dX2_readRings_154 rfl ?_
  obtain ⟨_, g0, hD⟩ := bd hD
  obtain ⟨r5, g, hD⟩ := bd hD
  refine ew_callVv (as := [vi 0, vi 9999]) (a := x0) (rest := [vi x4, vr v4]) dX2_readRings_157 v_X2_readNumber w_884 rfl (Nat.le_of_ble_eq_true rfl) rfl rfl g0 (Nat.le_of_ble_eq_true rfl) (Nat.le_of_ble_eq_true rfl) (ct_X2_readNumber g) ?_
  obtain ⟨s6, g, hD⟩ := bd hD
  refine ew_iast dX2_readRings_160 g ?_
  refine ev_aload_n dX2_readRings_161 2 rfl rfl ?_
  refine ev_iload dX2_readRings_162 4 rfl ?_
  refine ev_iconst dX2_readRings_164 (mi_c rfl) ?_
  refine ev_iadd dX2_readRings_165 ?_
  obtain ⟨s7, g, hD⟩ := bd hD
  refine ew_putI 4 2 dX2_readRings_166 rfl (Nat.le_of_ble_eq_true rfl) w_185 in_X4 tyX4_ok nmX4 (Or.inl rfl) rfl g ?_
  refine ev_iinc dX2_readRings_169 4 rfl (Nat.le_of_ble_eq_true rfl) rfl ?_
  refine ev_goto (tgt := 65) dX2_readRings_172 (by decide) ?_
  refine Ev.pick [2, 3, 4, 1, 0] rfl ?_
  exact hrec hD hk
def D_X2_readRings_97 (rec : Nat → Nat → Int → Int → mS → Option (mS ⊕ mS ⊕ mS)) (x0 : Nat) (x1 : Nat) (x3 : Int) (x4 : Int) (σ : mS) : Option (mS ⊕ mS ⊕ mS) :=
  if x4 ≠ 6 then
    if x4 ≤ 0 then
      D_X2_readRings_127 rec x0 x1 x3 x4 σ
    else
      (tgO σ x0 2).bind fun _ =>
      (D_X2_readSign x0 44 σ).bind fun r1 =>
      D_X2_readRings_127 rec x0 x1 x3 x4 r1
  else
    some (Sum.inr (Sum.inl σ))
set_option maxRecDepth 100000 in
set_option maxHeartbeats 4000000 in
theorem lk_X2_readRings_97 {G : mG} {rec : Nat → Nat → Int → Int → mS → Option (mS ⊕ mS ⊕ mS)} {x0 : Nat} {x1 : Nat} {x2 : Int} {x3 : Int} {x4 : Int} {σ : mS} {R : (mS ⊕ mS ⊕ mS)} {r : mX} {τ : mS} (hD : D_X2_readRings_97 rec x0 x1 x3 x4 σ = some R) (hrec : ∀ {x0 : Nat} {x1 : Nat} {x3 : Int} {x4 : Int} {σ : mS} {R : (mS ⊕ mS ⊕ mS)}, rec x0 x1 x3 x4 σ = some R → ∀ {r : mX} {τ : mS}, (∀ z, R = (Sum.inl z) → Ev G M_X2_readRings 94 [(0, vr x0), (2, vi x2)] [] z r τ) ∧ (∀ z, R = (Sum.inr (Sum.inl z)) → Ev G M_X2_readRings 104 [(0, vr x0), (2, vi x2)] [] z r τ) ∧ (∀ z, R = (Sum.inr (Sum.inr z)) → Ev G M_X2_readRings 175 [(0, vr x0), (2, vi x2)] [] z r τ) → Ev G M_X2_readRings 65 [(0, vr x0), (1, vr x1), (2, vi x2), (3, vi x3), (4, vi x4)] [] σ r τ) (hk : (∀ z, R = (Sum.inl z) → Ev G M_X2_readRings 94 [(0, vr x0), (2, vi x2)] [] z r τ) ∧ (∀ z, R = (Sum.inr (Sum.inl z)) → Ev G M_X2_readRings 104 [(0, vr x0), (2, vi x2)] [] z r τ) ∧ (∀ z, R = (Sum.inr (Sum.inr z)) → Ev G M_X2_readRings 175 [(0, vr x0), (2, vi x2)] [] z r τ)) : Ev G M_X2_readRings 97 [(0, vr x0), (1, vr x1), (2, vi x2), (3, vi x3), (4, vi x4)] [] σ r τ := by
  unfold D_X2_readRings_97 at hD
  refine ev_iload dX2_readRings_97 4 rfl ?_
  refine ev_bp dX2_readRings_99 rfl ?_
  by_cases c : x4 ≠ 6
  · rw [if_pos c] at hD
    refine ev_icmp_ne_t (tgt := 116) dX2_readRings_101 (by decide) c ?_
    refine ev_iload dX2_readRings_116 4 rfl ?_
    by_cases c : x4 ≤ 0
    · rw [if_pos c] at hD
      refine ev_if_le_t (tgt := 127) dX2_readRings_118 (by decide) c ?_
      exact lk_X2_readRings_127 hD hrec hk
    · rw [if_neg c] at hD
      refine ev_if_le_f 127 dX2_readRings_118 (by decide) c ?_
      refine ev_aload_n dX2_readRings_121 0 rfl rfl ?_
      refine ev_bp dX2_readRings_122 rfl ?_
      obtain ⟨_, g0, hD⟩ := bd hD
      obtain ⟨r1, g, hD⟩ := bd hD
      refine ew_callV0 (as := [vi 44]) (a := x0) (rest := []) dX2_readRings_124 v_X2_readSign w_880 rfl (Nat.le_of_ble_eq_true rfl) rfl rfl g0 (Nat.le_of_ble_eq_true rfl) (Nat.le_of_ble_eq_true rfl) (ct_X2_readSign g) ?_
      exact lk_X2_readRings_127 hD hrec hk
  · rw [if_neg c] at hD
    refine ev_icmp_ne_f 116 dX2_readRings_101 (by decide) c ?_
    cases hD
    refine Ev.pick [0, 2] rfl ?_
    exact hk.2.1 _ rfl
def D_X2_readRings_65 : Nat → Nat → Nat → Int → Int → mS → Option (mS ⊕ mS ⊕ mS)
  | 0, _, _, _, _, _ => none
  | f + 1, x0, x1, x3, x4, σ =>
    if 6 < x4 then
      some (Sum.inr (Sum.inr σ))
    else
      (gI σ x0 2 1).bind fun v1 =>
      if v1 ≠ 0 then
        some (Sum.inr (Sum.inr σ))
      else
        if x4 < 1 then
          D_X2_readRings_97 (D_X2_readRings_65 f) x0 x1 x3 x4 σ
        else
          (tgO σ x0 2).bind fun _ =>
          (D_X2_peek x0 σ).bind fun r2 =>
          if r2.1 = 44 then
            D_X2_readRings_97 (D_X2_readRings_65 f) x0 x1 x3 x4 r2.2
          else
            some (Sum.inl r2.2)
set_option maxRecDepth 100000 in
set_option maxHeartbeats 4000000 in
theorem lk_X2_readRings_65 {G : mG} {x2 : Int} (f : Nat) : ∀ {x0 : Nat} {x1 : Nat} {x3 : Int} {x4 : Int} {σ : mS} {R : (mS ⊕ mS ⊕ mS)}, D_X2_readRings_65 f x0 x1 x3 x4 σ = some R → ∀ {r : mX} {τ : mS}, (∀ z, R = (Sum.inl z) → Ev G M_X2_readRings 94 [(0, vr x0), (2, vi x2)] [] z r τ) ∧ (∀ z, R = (Sum.inr (Sum.inl z)) → Ev G M_X2_readRings 104 [(0, vr x0), (2, vi x2)] [] z r τ) ∧ (∀ z, R = (Sum.inr (Sum.inr z)) → Ev G M_X2_readRings 175 [(0, vr x0), (2, vi x2)] [] z r τ) → Ev G M_X2_readRings 65 [(0, vr x0), (1, vr x1), (2, vi x2), (3, vi x3), (4, vi x4)] [] σ r τ := by
  induction f with
  | zero =>
    intros
    rename_i hD _ _ _
    cases hD
  | succ f ih =>
    intro x0 x1 x3 x4 σ R hD r τ hk
    have hrec := @ih
    rw [D_X2_readRings_65] at hD
    refine ev_iload dX2_readRings_65 4 rfl ?_
    refine ev_bp dX2_readRings_67 rfl ?_
    by_cases c : 6 < x4
    · rw [if_pos c] at hD
      refine ev_icmp_gt_t (tgt := 175) dX2_readRings_69 (by decide) c ?_
      cases hD
      refine Ev.pick [0, 2] rfl ?_
      exact hk.2.2 _ rfl
    · rw [if_neg c] at hD
      refine ev_icmp_gt_f 175 dX2_readRings_69 (by decide) c ?_
      refine ev_aload_n dX2_readRings_72 0 rfl rfl ?_
      obtain ⟨v1, g, hD⟩ := bd hD
      refine ew_getI 2 1 dX2_readRings_73 rfl (Nat.le_of_ble_eq_true rfl) w_341 in_X2 rfl g ?_
      by_cases c : v1 ≠ 0
      · rw [if_pos c] at hD
        refine ev_if_ne_t (tgt := 175) dX2_readRings_76 (by decide) c ?_
        cases hD
        refine Ev.pick [0, 2] rfl ?_
        exact hk.2.2 _ rfl
      · rw [if_neg c] at hD
        refine ev_if_ne_f 175 dX2_readRings_76 (by decide) c ?_
        refine ev_iload dX2_readRings_79 4 rfl ?_
        refine ev_iconst dX2_readRings_81 (mi_c rfl) ?_
        by_cases c : x4 < 1
        · rw [if_pos c] at hD
          refine ev_icmp_lt_t (tgt := 97) dX2_readRings_82 (by decide) c ?_
          exact lk_X2_readRings_97 hD hrec hk
        · rw [if_neg c] at hD
          refine ev_icmp_lt_f 97 dX2_readRings_82 (by decide) c ?_
          refine ev_aload_n dX2_readRings_85 0 rfl rfl ?_
          obtain ⟨_, g0, hD⟩ := bd hD
          obtain ⟨r2, g, hD⟩ := bd hD
          refine ew_callVv (as := []) (a := x0) (rest := []) dX2_readRings_86 v_X2_peek w_797 rfl (Nat.le_of_ble_eq_true rfl) rfl rfl g0 (Nat.le_of_ble_eq_true rfl) (Nat.le_of_ble_eq_true rfl) (ct_X2_peek g) ?_
          refine ev_bp dX2_readRings_89 rfl ?_
          by_cases c : r2.1 = 44
          · rw [if_pos c] at hD
            refine ev_icmp_eq_t (tgt := 97) dX2_readRings_91 (by decide) c ?_
            exact lk_X2_readRings_97 hD hrec hk
          · rw [if_neg c] at hD
            refine ev_icmp_eq_f 97 dX2_readRings_91 (by decide) c ?_
            cases hD
            refine Ev.pick [0, 2] rfl ?_
            exact hk.1 _ rfl
def D_X2_readRings_175 (x0 : Nat) (x2 : Int) (σ : mS) : Option mS :=
  (tgO σ x0 2).bind fun _ =>
  (D_X2_readSign x0 59 σ).bind fun r1 =>
  (gR r1 x0 2 10).bind fun v2 =>
  (gR r1 x0 2 0).bind fun v3 =>
  (gI r1 v3 5 3).bind fun v4 =>
  (sI r1 v2 v4 x2).bind fun s5 =>
  (gR s5 x0 2 0).bind fun v6 =>
  (gI s5 v6 5 3).bind fun v7 =>
  (pI s5 v6 5 3 (mw (v7 + 1))).bind fun s8 =>
  some s8
set_option maxRecDepth 100000 in
set_option maxHeartbeats 4000000 in
theorem lk_X2_readRings_175 {G : mG} {x0 : Nat} {x2 : Int} {σ : mS} {R : mS} (hD : D_X2_readRings_175 x0 x2 σ = some R) : Ev G M_X2_readRings 175 [(0, vr x0), (2, vi x2)] [] σ (.inl none) R := by
  unfold D_X2_readRings_175 at hD
  refine ev_aload_n dX2_readRings_175 0 rfl rfl ?_
  refine ev_bp dX2_readRings_176 rfl ?_
  obtain ⟨_, g0, hD⟩ := bd hD
  obtain ⟨r1, g, hD⟩ := bd hD
  refine ew_callV0 (as := [vi 59]) (a := x0) (rest := []) dX2_readRings_178 v_X2_readSign w_880 rfl (Nat.le_of_ble_eq_true rfl) rfl rfl g0 (Nat.le_of_ble_eq_true rfl) (Nat.le_of_ble_eq_true rfl) (ct_X2_readSign g) ?_
  refine ev_aload_n dX2_readRings_181 0 rfl rfl ?_
  obtain ⟨v2, g, hD⟩ := bd hD
  refine ew_getR 2 10 dX2_readRings_182 rfl (Nat.le_of_ble_eq_true rfl) w_352 in_X2 rfl g ?_
  refine ev_aload_n dX2_readRings_185 0 rfl rfl ?_
  obtain ⟨v3, g, hD⟩ := bd hD
  refine ew_getR 2 0 dX2_readRings_186 rfl (Nat.le_of_ble_eq_true rfl) w_339 in_X2 rfl g ?_
  obtain ⟨v4, g, hD⟩ := bd hD
  refine ew_getI 5 3 dX2_readRings_189 rfl (Nat.le_of_ble_eq_true rfl) w_279 in_X5 rfl g ?_
  refine ev_iload_n dX2_readRings_192 1 rfl rfl ?_
  obtain ⟨s5, g, hD⟩ := bd hD
  refine ew_iast dX2_readRings_193 g ?_
  refine ev_aload_n dX2_readRings_194 0 rfl rfl ?_
  obtain ⟨v6, g, hD⟩ := bd hD
  refine ew_getR 2 0 dX2_readRings_195 rfl (Nat.le_of_ble_eq_true rfl) w_339 in_X2 rfl g ?_
  refine ev_dup dX2_readRings_198 rfl ?_
  obtain ⟨v7, g, hD⟩ := bd hD
  refine ew_getI 5 3 dX2_readRings_199 rfl (Nat.le_of_ble_eq_true rfl) w_279 in_X5 rfl g ?_
  refine ev_iconst dX2_readRings_202 (mi_c rfl) ?_
  refine ev_iadd dX2_readRings_203 ?_
  obtain ⟨s8, g, hD⟩ := bd hD
  refine ew_putI 5 3 dX2_readRings_204 rfl (Nat.le_of_ble_eq_true rfl) w_279 in_X5 tyX5_ok nmX5 (Or.inl rfl) rfl g ?_
  cases hD
  exact ev_ret none dX2_readRings_207 True.intro
def D_X2_readRings (x0 : Nat) (σ : mS) : Option mS :=
  (gR σ x0 2 0).bind fun v1 =>
  (gI σ v1 5 3).bind fun v2 =>
  if v2 < 12 then
    (gR σ x0 2 0).bind fun v3 =>
    (gR σ v3 5 8).bind fun v4 =>
    (gR σ x0 2 0).bind fun v5 =>
    (gI σ v5 5 3).bind fun v6 =>
    (lR σ v4 v6).bind fun v7 =>
    (tgO σ x0 2).bind fun _ =>
    (D_X2_readNewName x0 σ).bind fun r8 =>
    (pB r8.2 v7 4 0 1).bind fun s9 =>
    (tgO s9 x0 2).bind fun _ =>
    (D_X2_readNumber x0 0 999 s9).bind fun r10 =>
    (pI r10.2 v7 4 1 r10.1).bind fun s11 =>
    (D_X2_readRings_65 mFU x0 v7 ((-1)) 0 s11).bind fun r12 =>
    match r12 with
    | (Sum.inl z13) =>
      D_X2_readRings_175 x0 r8.1 z13
    | (Sum.inr (Sum.inl z14)) =>
      (gI z14 x0 2 5).bind fun v15 =>
      (tgO z14 x0 2).bind fun _ =>
      (D_X2_fail x0 3 v15 z14).bind fun r16 =>
      D_X2_readRings_175 x0 r8.1 r16
    | (Sum.inr (Sum.inr z17)) =>
      D_X2_readRings_175 x0 r8.1 z17
  else
    (gI σ x0 2 6).bind fun v18 =>
    (tgO σ x0 2).bind fun _ =>
    (D_X2_fail x0 3 v18 σ).bind fun r19 =>
    some r19
set_option maxRecDepth 100000 in
set_option maxHeartbeats 4000000 in
theorem lk_X2_readRings {G : mG} {x0 : Nat} {σ : mS} {R : mS} (hD : D_X2_readRings x0 σ = some R) : Ev G M_X2_readRings 0 [(0, vr x0)] [] σ (.inl none) R := by
  unfold D_X2_readRings at hD
  refine ev_aload_n dX2_readRings_0 0 rfl rfl ?_
  obtain ⟨v1, g, hD⟩ := bd hD
  refine ew_getR 2 0 dX2_readRings_1 rfl (Nat.le_of_ble_eq_true rfl) w_339 in_X2 rfl g ?_
  obtain ⟨v2, g, hD⟩ := bd hD
  refine ew_getI 5 3 dX2_readRings_4 rfl (Nat.le_of_ble_eq_true rfl) w_279 in_X5 rfl g ?_
  refine ev_bp dX2_readRings_7 rfl ?_
  by_cases c : v2 < 12
  · rw [if_pos c] at hD
    refine ev_icmp_lt_t (tgt := 22) dX2_readRings_9 (by decide) c ?_
    refine ev_aload_n dX2_readRings_22 0 rfl rfl ?_
    obtain ⟨v3, g, hD⟩ := bd hD
    refine ew_getR 2 0 dX2_readRings_23 rfl (Nat.le_of_ble_eq_true rfl) w_339 in_X2 rfl g ?_
    obtain ⟨v4, g, hD⟩ := bd hD
    refine ew_getR 5 8 dX2_readRings_26 rfl (Nat.le_of_ble_eq_true rfl) w_297 in_X5 rfl g ?_
    refine ev_aload_n dX2_readRings_29 0 rfl rfl ?_
    obtain ⟨v5, g, hD⟩ := bd hD
    refine ew_getR 2 0 dX2_readRings_30 rfl (Nat.le_of_ble_eq_true rfl) w_339 in_X2 rfl g ?_
    obtain ⟨v6, g, hD⟩ := bd hD
    refine ew_getI 5 3 dX2_readRings_33 rfl (Nat.le_of_ble_eq_true rfl) w_279 in_X5 rfl g ?_
    obtain ⟨v7, g, hD⟩ := bd hD
    refine ew_aald dX2_readRings_36 g ?_
    refine ev_astore_n dX2_readRings_37 rfl (Nat.le_of_ble_eq_true rfl) rfl ?_
    refine ev_aload_n dX2_readRings_38 1 rfl rfl ?_
    obtain ⟨_, g0, hD⟩ := bd hD
    obtain ⟨r8, g, hD⟩ := bd hD
    refine ew_callVv (as := []) (a := x0) (rest := []) dX2_readRings_39 v_X2_readNewName w_896 rfl (Nat.le_of_ble_eq_true rfl) rfl rfl g0 (Nat.le_of_ble_eq_true rfl) (Nat.le_of_ble_eq_true rfl) (ct_X2_readNewName g) ?_
    refine ev_istore_n dX2_readRings_42 rfl (Nat.le_of_ble_eq_true rfl) rfl ?_
    refine ev_aload_n dX2_readRings_43 1 rfl rfl ?_
    refine ev_iconst dX2_readRings_44 (mi_c rfl) ?_
    obtain ⟨s9, g, hD⟩ := bd hD
    refine ew_putB 4 0 dX2_readRings_45 rfl (Nat.le_of_ble_eq_true rfl) w_177 in_X4 tyX4_ok nmX4 (Or.inl rfl) rfl g ?_
    refine ev_aload_n dX2_readRings_48 1 rfl rfl ?_
    refine ev_aload_n dX2_readRings_49 2 rfl rfl ?_
    refine ev_iconst dX2_readRings_50 (mi_c rfl) ?_
    refine ev_sp dX2_readRings_51 rfl ?_
    obtain ⟨_, g0, hD⟩ := bd hD
    obtain ⟨r10, g, hD⟩ := bd hD
    refine ew_callVv (as := [vi 0, vi 999]) (a := x0) (rest := [vr v7]) dX2_readRings_54 v_X2_readNumber w_884 rfl (Nat.le_of_ble_eq_true rfl) rfl rfl g0 (Nat.le_of_ble_eq_true rfl) (Nat.le_of_ble_eq_true rfl) (ct_X2_readNumber g) ?_
    obtain ⟨s11, g, hD⟩ := bd hD
    refine ew_putI 4 1 dX2_readRings_57 rfl (Nat.le_of_ble_eq_true rfl) w_181 in_X4 tyX4_ok nmX4 (Or.inl rfl) rfl g ?_
    refine ev_iconst dX2_readRings_60 (mi_c rfl) ?_
    refine ev_istore_n dX2_readRings_61 rfl (Nat.le_of_ble_eq_true rfl) rfl ?_
    refine ev_iconst dX2_readRings_62 (mi_c rfl) ?_
    refine ev_istore dX2_readRings_63 (Nat.le_of_ble_eq_true rfl) rfl ?_
    obtain ⟨r12, g, hD⟩ := bd hD
    refine Ev.pick [4, 3, 2, 1, 0] rfl ?_
    rcases r12 with z13 | z14 | z17
    · refine lk_X2_readRings_65 mFU g ⟨(fun _ hz => ?_), (fun _ hz => nomatch hz), (fun _ hz => nomatch hz)⟩
      cases hz
      refine ev_goto (tgt := 175) dX2_readRings_94 (by decide) ?_
      exact lk_X2_readRings_175 hD
    · refine lk_X2_readRings_65 mFU g ⟨(fun _ hz => nomatch hz), (fun _ hz => ?_), (fun _ hz => nomatch hz)⟩
      cases hz
      refine ev_aload_n dX2_readRings_104 0 rfl rfl ?_
      refine ev_iconst dX2_readRings_105 (mi_c rfl) ?_
      refine ev_aload_n dX2_readRings_106 0 rfl rfl ?_
      obtain ⟨v15, g, hD⟩ := bd hD
      refine ew_getI 2 5 dX2_readRings_107 rfl (Nat.le_of_ble_eq_true rfl) w_347 in_X2 rfl g ?_
      obtain ⟨_, g0, hD⟩ := bd hD
      obtain ⟨r16, g, hD⟩ := bd hD
      refine ew_callV0 (as := [vi 3, vi v15]) (a := x0) (rest := []) dX2_readRings_110 v_X2_fail w_804 rfl (Nat.le_of_ble_eq_true rfl) rfl rfl g0 (Nat.le_of_ble_eq_true rfl) (Nat.le_of_ble_eq_true rfl) (ct_X2_fail g) ?_
      refine ev_goto (tgt := 175) dX2_readRings_113 (by decide) ?_
      exact lk_X2_readRings_175 hD
    · refine lk_X2_readRings_65 mFU g ⟨(fun _ hz => nomatch hz), (fun _ hz => nomatch hz), (fun _ hz => ?_)⟩
      cases hz
      exact lk_X2_readRings_175 hD
  · rw [if_neg c] at hD
    refine ev_icmp_lt_f 22 dX2_readRings_9 (by decide) c ?_
    refine ev_aload_n dX2_readRings_12 0 rfl rfl ?_
    refine ev_iconst dX2_readRings_13 (mi_c rfl) ?_
    refine ev_aload_n dX2_readRings_14 0 rfl rfl ?_
    obtain ⟨v18, g, hD⟩ := bd hD
    refine ew_getI 2 6 dX2_readRings_15 rfl (Nat.le_of_ble_eq_true rfl) w_348 in_X2 rfl g ?_
    obtain ⟨_, g0, hD⟩ := bd hD
    obtain ⟨r19, g, hD⟩ := bd hD
    refine ew_callV0 (as := [vi 3, vi v18]) (a := x0) (rest := []) dX2_readRings_18 v_X2_fail w_804 rfl (Nat.le_of_ble_eq_true rfl) rfl rfl g0 (Nat.le_of_ble_eq_true rfl) (Nat.le_of_ble_eq_true rfl) (ct_X2_fail g) ?_
    cases hD
    exact ev_ret none dX2_readRings_21 True.intro
theorem ct_X2_readRings {G : mG} {x0 : Nat} {σ : mS} {R : mS} (hD : D_X2_readRings x0 σ = some R) : Ct G M_X2_readRings [vr x0] σ (.inl none) R := ct_of rfl (by decide +kernel) rfl (Nat.le_of_ble_eq_true rfl) rfl (lk_X2_readRings hD)
def D_X2_readMember_68 (rec : Nat → Int → Int → Int → mS → Option Int) (x1 : Nat) (x4 : Int) (x6 : Int) (y0 : Int) (σ : mS) : Option Int :=
  rec x1 x4 y0 (mw (x6 + 1)) σ
set_option maxRecDepth 100000 in
set_option maxHeartbeats 4000000 in
theorem lk_X2_readMember_68 {G : mG} {rec : Nat → Int → Int → Int → mS → Option Int} {x0 : Nat} {x1 : Nat} {x4 : Int} {x6 : Int} {y0 : Int} {σ : mS} {R : Int} {r : mX} {τ : mS} (hD : D_X2_readMember_68 rec x1 x4 x6 y0 σ = some R) (hrec : ∀ {x1 : Nat} {x4 : Int} {x5 : Int} {x6 : Int} {σ : mS} {R : Int}, rec x1 x4 x5 x6 σ = some R → ∀ {r : mX} {τ : mS}, Ev G M_X2_readMember 76 [(0, vr x0), (4, vi x4), (5, vi (R))] [] σ r τ → Ev G M_X2_readMember 37 [(0, vr x0), (1, vr x1), (4, vi x4), (5, vi x5), (6, vi x6)] [] σ r τ) (hk : Ev G M_X2_readMember 76 [(0, vr x0), (4, vi x4), (5, vi (R))] [] σ r τ) : Ev G M_X2_readMember 68 [(0, vr x0), (1, vr x1), (4, vi x4), (6, vi x6)] [vi y0] σ r τ := by
  unfold D_X2_readMember_68 at hD
  refine ev_istore dX2_readMember_68 (Nat.le_of_ble_eq_true rfl) rfl ?_
  refine ev_iinc dX2_readMember_70 4 rfl (Nat.le_of_ble_eq_true rfl) rfl ?_
  refine ev_goto (tgt := 37) dX2_readMember_73 (by decide) ?_
  refine Ev.pick [2, 3, 4, 1, 0] rfl ?_
  exact hrec hD hk
def D_X2_readMember_63 (rec : Nat → Int → Int → Int → mS → Option Int) (x1 : Nat) (x4 : Int) (x6 : Int) (σ : mS) : Option Int :=
  D_X2_readMember_68 rec x1 x4 x6 1 σ
set_option maxRecDepth 100000 in
set_option maxHeartbeats 4000000 in
theorem lk_X2_readMember_63 {G : mG} {rec : Nat → Int → Int → Int → mS → Option Int} {x0 : Nat} {x1 : Nat} {x4 : Int} {x6 : Int} {σ : mS} {R : Int} {r : mX} {τ : mS} (hD : D_X2_readMember_63 rec x1 x4 x6 σ = some R) (hrec : ∀ {x1 : Nat} {x4 : Int} {x5 : Int} {x6 : Int} {σ : mS} {R : Int}, rec x1 x4 x5 x6 σ = some R → ∀ {r : mX} {τ : mS}, Ev G M_X2_readMember 76 [(0, vr x0), (4, vi x4), (5, vi (R))] [] σ r τ → Ev G M_X2_readMember 37 [(0, vr x0), (1, vr x1), (4, vi x4), (5, vi x5), (6, vi x6)] [] σ r τ) (hk : Ev G M_X2_readMember 76 [(0, vr x0), (4, vi x4), (5, vi (R))] [] σ r τ) : Ev G M_X2_readMember 63 [(0, vr x0), (1, vr x1), (4, vi x4), (6, vi x6)] [] σ r τ := by
  unfold D_X2_readMember_63 at hD
  refine ev_iconst dX2_readMember_63 (mi_c rfl) ?_
  refine ev_goto (tgt := 68) dX2_readMember_64 (by decide) ?_
  exact lk_X2_readMember_68 hD hrec hk
def D_X2_readMember_37 : Nat → Nat → Int → Int → Int → mS → Option Int
  | 0, _, _, _, _, _ => none
  | f + 1, x1, x4, x5, x6, σ =>
    (gI σ x1 1 0).bind fun v1 =>
    if v1 ≤ x6 then
      some x5
    else
      if x5 ≠ 0 then
        D_X2_readMember_63 (D_X2_readMember_37 f) x1 x4 x6 σ
      else
        (gR σ x1 1 1).bind fun v2 =>
        (lI σ v2 x6).bind fun v3 =>
        if v3 ≠ x4 then
          D_X2_readMember_68 (D_X2_readMember_37 f) x1 x4 x6 0 σ
        else
          D_X2_readMember_63 (D_X2_readMember_37 f) x1 x4 x6 σ
set_option maxRecDepth 100000 in
set_option maxHeartbeats 4000000 in
theorem lk_X2_readMember_37 {G : mG} {x0 : Nat} (f : Nat) : ∀ {x1 : Nat} {x4 : Int} {x5 : Int} {x6 : Int} {σ : mS} {R : Int}, D_X2_readMember_37 f x1 x4 x5 x6 σ = some R → ∀ {r : mX} {τ : mS}, Ev G M_X2_readMember 76 [(0, vr x0), (4, vi x4), (5, vi (R))] [] σ r τ → Ev G M_X2_readMember 37 [(0, vr x0), (1, vr x1), (4, vi x4), (5, vi x5), (6, vi x6)] [] σ r τ := by
  induction f with
  | zero =>
    intros
    rename_i hD _ _ _
    cases hD
  | succ f ih =>
    intro x1 x4 x5 x6 σ R hD r τ hk
    have hrec := @ih
    rw [D_X2_readMember_37] at hD
    refine ev_iload dX2_readMember_37 4 rfl ?_
    refine ev_aload_n dX2_readMember_39 1 rfl rfl ?_
    obtain ⟨v1, g, hD⟩ := bd hD
    refine ew_getI 1 0 dX2_readMember_40 rfl (Nat.le_of_ble_eq_true rfl) w_211 in_X1 rfl g ?_
    by_cases c : v1 ≤ x6
    · rw [if_pos c] at hD
      refine ev_icmp_ge_t (tgt := 76) dX2_readMember_43 (by decide) c ?_
      cases hD
      refine Ev.pick [0, 2, 3] rfl ?_
      exact hk
    · rw [if_neg c] at hD
      refine ev_icmp_ge_f 76 dX2_readMember_43 (by decide) c ?_
      refine ev_iload dX2_readMember_46 3 rfl ?_
      by_cases c : x5 ≠ 0
      · rw [if_pos c] at hD
        refine ev_if_ne_t (tgt := 63) dX2_readMember_48 (by decide) c ?_
        refine Ev.pick [0, 1, 2, 4] rfl ?_
        exact lk_X2_readMember_63 hD hrec hk
      · rw [if_neg c] at hD
        refine ev_if_ne_f 63 dX2_readMember_48 (by decide) c ?_
        refine ev_aload_n dX2_readMember_51 1 rfl rfl ?_
        obtain ⟨v2, g, hD⟩ := bd hD
        refine ew_getR 1 1 dX2_readMember_52 rfl (Nat.le_of_ble_eq_true rfl) w_216 in_X1 rfl g ?_
        refine ev_iload dX2_readMember_55 4 rfl ?_
        obtain ⟨v3, g, hD⟩ := bd hD
        refine ew_iald dX2_readMember_57 g ?_
        refine ev_iload dX2_readMember_58 2 rfl ?_
        by_cases c : v3 ≠ x4
        · rw [if_pos c] at hD
          refine ev_icmp_ne_t (tgt := 67) dX2_readMember_60 (by decide) c ?_
          refine ev_iconst dX2_readMember_67 (mi_c rfl) ?_
          refine Ev.pick [0, 1, 2, 4] rfl ?_
          exact lk_X2_readMember_68 hD hrec hk
        · rw [if_neg c] at hD
          refine ev_icmp_ne_f 67 dX2_readMember_60 (by decide) c ?_
          refine Ev.pick [0, 1, 2, 4] rfl ?_
          exact lk_X2_readMember_63 hD hrec hk
def D_X2_readMember_108 (x4 : Int) (σ : mS) : Option (Int × mS) :=
  some (x4, σ)
set_option maxRecDepth 100000 in
set_option maxHeartbeats 4000000 in
theorem lk_X2_readMember_108 {G : mG} {x4 : Int} {σ : mS} {R : (Int × mS)} (hD : D_X2_readMember_108 x4 σ = some R) : Ev G M_X2_readMember 108 [(4, vi x4)] [] σ (.inl (some (vi R.1))) R.2 := by
  unfold D_X2_readMember_108 at hD
  refine ev_iload dX2_readMember_108 0 rfl ?_
  cases hD
  exact ev_ret (some (vi _)) dX2_readMember_110 True.intro
def D_X2_readMember_32 (x0 : Nat) (x1 : Nat) (x4 : Int) (y0 : Int) (σ : mS) : Option (Int × mS) :=
  (D_X2_readMember_37 mFU x1 x4 y0 0 σ).bind fun r1 =>
  if r1 = 0 then
    if x4 ≠ ((-1)) then
      D_X2_readMember_108 x4 σ
    else
      (gI σ x0 2 6).bind fun v2 =>
      (tgO σ x0 2).bind fun _ =>
      (D_X2_fail x0 5 v2 σ).bind fun r3 =>
      D_X2_readMember_108 x4 r3
  else
    (gI σ x0 2 6).bind fun v4 =>
    (tgO σ x0 2).bind fun _ =>
    (D_X2_fail x0 4 v4 σ).bind fun r5 =>
    D_X2_readMember_108 x4 r5
set_option maxRecDepth 100000 in
set_option maxHeartbeats 4000000 in
theorem lk_X2_readMember_32 {G : mG} {x0 : Nat} {x1 : Nat} {x4 : Int} {y0 : Int} {σ : mS} {R : (Int × mS)} (hD : D_X2_readMember_32 x0 x1 x4 y0 σ = some R) : Ev G M_X2_readMember 32 [(0, vr x0), (1, vr x1), (4, vi x4)] [vi y0] σ (.inl (some (vi R.1))) R.2 := by
  unfold D_X2_readMember_32 at hD
  refine ev_istore dX2_readMember_32 (Nat.le_of_ble_eq_true rfl) rfl ?_
  refine ev_iconst dX2_readMember_34 (mi_c rfl) ?_
  refine ev_istore dX2_readMember_35 (Nat.le_of_ble_eq_true rfl) rfl ?_
  obtain ⟨r1, g, hD⟩ := bd hD
  refine Ev.pick [2, 3, 4, 1, 0] rfl ?_
  refine lk_X2_readMember_37 mFU g ?_
  refine ev_iload dX2_readMember_76 2 rfl ?_
  by_cases c : r1 = 0
  · rw [if_pos c] at hD
    refine ev_if_eq_t (tgt := 93) dX2_readMember_78 (by decide) c ?_
    refine ev_iload dX2_readMember_93 1 rfl ?_
    refine ev_iconst dX2_readMember_95 (mi_c rfl) ?_
    by_cases c : x4 ≠ ((-1))
    · rw [if_pos c] at hD
      refine ev_icmp_ne_t (tgt := 108) dX2_readMember_96 (by decide) c ?_
      refine Ev.pick [1] rfl ?_
      exact lk_X2_readMember_108 hD
    · rw [if_neg c] at hD
      refine ev_icmp_ne_f 108 dX2_readMember_96 (by decide) c ?_
      refine ev_aload_n dX2_readMember_99 0 rfl rfl ?_
      refine ev_iconst dX2_readMember_100 (mi_c rfl) ?_
      refine ev_aload_n dX2_readMember_101 0 rfl rfl ?_
      obtain ⟨v2, g, hD⟩ := bd hD
      refine ew_getI 2 6 dX2_readMember_102 rfl (Nat.le_of_ble_eq_true rfl) w_348 in_X2 rfl g ?_
      obtain ⟨_, g0, hD⟩ := bd hD
      obtain ⟨r3, g, hD⟩ := bd hD
      refine ew_callV0 (as := [vi 5, vi v2]) (a := x0) (rest := []) dX2_readMember_105 v_X2_fail w_804 rfl (Nat.le_of_ble_eq_true rfl) rfl rfl g0 (Nat.le_of_ble_eq_true rfl) (Nat.le_of_ble_eq_true rfl) (ct_X2_fail g) ?_
      refine Ev.pick [1] rfl ?_
      exact lk_X2_readMember_108 hD
  · rw [if_neg c] at hD
    refine ev_if_eq_f 93 dX2_readMember_78 (by decide) c ?_
    refine ev_aload_n dX2_readMember_81 0 rfl rfl ?_
    refine ev_iconst dX2_readMember_82 (mi_c rfl) ?_
    refine ev_aload_n dX2_readMember_83 0 rfl rfl ?_
    obtain ⟨v4, g, hD⟩ := bd hD
    refine ew_getI 2 6 dX2_readMember_84 rfl (Nat.le_of_ble_eq_true rfl) w_348 in_X2 rfl g ?_
    obtain ⟨_, g0, hD⟩ := bd hD
    obtain ⟨r5, g, hD⟩ := bd hD
    refine ew_callV0 (as := [vi 4, vi v4]) (a := x0) (rest := []) dX2_readMember_87 v_X2_fail w_804 rfl (Nat.le_of_ble_eq_true rfl) rfl rfl g0 (Nat.le_of_ble_eq_true rfl) (Nat.le_of_ble_eq_true rfl) (ct_X2_fail g) ?_
    refine ev_goto (tgt := 108) dX2_readMember_90 (by decide) ?_
    refine Ev.pick [1] rfl ?_
    exact lk_X2_readMember_108 hD
def D_X2_readMember (x0 : Nat) (x1 : Nat) (x2 : Int) (σ : mS) : Option (Int × mS) :=
  (tgO σ x0 2).bind fun _ =>
  (D_X2_readName x0 σ).bind fun r1 =>
  (gR r1.2 x0 2 10).bind fun v2 =>
  (gR r1.2 x0 2 0).bind fun v3 =>
  (gI r1.2 v3 5 3).bind fun v4 =>
  (D_X2_numberOf r1.1 v2 v4 r1.2).bind fun r5 =>
  if r1.1 ≠ x2 then
    D_X2_readMember_32 x0 x1 r5 0 r1.2
  else
    D_X2_readMember_32 x0 x1 r5 1 r1.2
set_option maxRecDepth 100000 in
set_option maxHeartbeats 4000000 in
theorem lk_X2_readMember {G : mG} {x0 : Nat} {x1 : Nat} {x2 : Int} {σ : mS} {R : (Int × mS)} (hD : D_X2_readMember x0 x1 x2 σ = some R) : Ev G M_X2_readMember 0 [(0, vr x0), (1, vr x1), (2, vi x2)] [] σ (.inl (some (vi R.1))) R.2 := by
  unfold D_X2_readMember at hD
  refine ev_aload_n dX2_readMember_0 0 rfl rfl ?_
  obtain ⟨_, g0, hD⟩ := bd hD
  obtain ⟨r1, g, hD⟩ := bd hD
  refine ew_callVv (as := []) (a := x0) (rest := []) dX2_readMember_1 v_X2_readName w_900 rfl (Nat.le_of_ble_eq_true rfl) rfl rfl g0 (Nat.le_of_ble_eq_true rfl) (Nat.le_of_ble_eq_true rfl) (ct_X2_readName g) ?_
  refine ev_istore_n dX2_readMember_4 rfl (Nat.le_of_ble_eq_true rfl) rfl ?_
  refine ev_iload_n dX2_readMember_5 0 rfl rfl ?_
  refine ev_aload_n dX2_readMember_6 1 rfl rfl ?_
  obtain ⟨v2, g, hD⟩ := bd hD
  refine ew_getR 2 10 dX2_readMember_7 rfl (Nat.le_of_ble_eq_true rfl) w_352 in_X2 rfl g ?_
  refine ev_aload_n dX2_readMember_10 1 rfl rfl ?_
  obtain ⟨v3, g, hD⟩ := bd hD
  refine ew_getR 2 0 dX2_readMember_11 rfl (Nat.le_of_ble_eq_true rfl) w_339 in_X2 rfl g ?_
  obtain ⟨v4, g, hD⟩ := bd hD
  refine ew_getI 5 3 dX2_readMember_14 rfl (Nat.le_of_ble_eq_true rfl) w_279 in_X5 rfl g ?_
  obtain ⟨r5, g, hD⟩ := bd hD
  refine ew_callSv (as := [vi r1.1, vr v2, vi v4]) (rest := []) dX2_readMember_17 v_X2_numberOf w_904 rfl (Nat.le_of_ble_eq_true rfl) (Nat.le_of_ble_eq_true rfl) (Nat.le_of_ble_eq_true rfl) (ct_X2_numberOf g) ?_
  refine ev_istore dX2_readMember_20 (Nat.le_of_ble_eq_true rfl) rfl ?_
  refine ev_iload_n dX2_readMember_22 1 rfl rfl ?_
  refine ev_iload_n dX2_readMember_23 4 rfl rfl ?_
  by_cases c : r1.1 ≠ x2
  · rw [if_pos c] at hD
    refine ev_icmp_ne_t (tgt := 31) dX2_readMember_24 (by decide) c ?_
    refine ev_iconst dX2_readMember_31 (mi_c rfl) ?_
    refine Ev.pick [2, 3, 0] rfl ?_
    exact lk_X2_readMember_32 hD
  · rw [if_neg c] at hD
    refine ev_icmp_ne_f 31 dX2_readMember_24 (by decide) c ?_
    refine ev_iconst dX2_readMember_27 (mi_c rfl) ?_
    refine ev_goto (tgt := 32) dX2_readMember_28 (by decide) ?_
    refine Ev.pick [2, 3, 0] rfl ?_
    exact lk_X2_readMember_32 hD
theorem ct_X2_readMember {G : mG} {x0 : Nat} {x1 : Nat} {x2 : Int} {σ : mS} {R : (Int × mS)} (hD : D_X2_readMember x0 x1 x2 σ = some R) : Ct G M_X2_readMember [vr x0, vr x1, vi x2] σ (.inl (some (vi R.1))) R.2 := ct_of rfl (by decide +kernel) rfl (Nat.le_of_ble_eq_true rfl) rfl (lk_X2_readMember hD)
def D_X2_readPhase_80 (rec : Nat → Nat → Int → Int → mS → Option (mS ⊕ mS ⊕ mS)) (x0 : Nat) (x1 : Nat) (x2 : Int) (x3 : Int) (σ : mS) : Option (mS ⊕ mS ⊕ mS) :=
  if x3 ≠ 6 then
    (gR σ x1 1 1).bind fun v1 =>
    (tgO σ x0 2).bind fun _ =>
    (D_X2_readMember x0 x1 x2 σ).bind fun r2 =>
    (sI r2.2 v1 x3 r2.1).bind fun s3 =>
    (pI s3 x1 1 0 (mw (x3 + 1))).bind fun s4 =>
    rec x0 x1 x2 (mw (x3 + 1)) s4
  else
    some (Sum.inr (Sum.inl σ))
set_option maxRecDepth 100000 in
set_option maxHeartbeats 4000000 in
theorem lk_X2_readPhase_80 {G : mG} {rec : Nat → Nat → Int → Int → mS → Option (mS ⊕ mS ⊕ mS)} {x0 : Nat} {x1 : Nat} {x2 : Int} {x3 : Int} {σ : mS} {R : (mS ⊕ mS ⊕ mS)} {r : mX} {τ : mS} (hD : D_X2_readPhase_80 rec x0 x1 x2 x3 σ = some R) (hrec : ∀ {x0 : Nat} {x1 : Nat} {x2 : Int} {x3 : Int} {σ : mS} {R : (mS ⊕ mS ⊕ mS)}, rec x0 x1 x2 x3 σ = some R → ∀ {r : mX} {τ : mS}, (∀ z, R = (Sum.inl z) → Ev G M_X2_readPhase 77 [(0, vr x0), (2, vi x2)] [] z r τ) ∧ (∀ z, R = (Sum.inr (Sum.inl z)) → Ev G M_X2_readPhase 86 [(0, vr x0), (2, vi x2)] [] z r τ) ∧ (∀ z, R = (Sum.inr (Sum.inr z)) → Ev G M_X2_readPhase 123 [(0, vr x0), (2, vi x2)] [] z r τ) → Ev G M_X2_readPhase 49 [(0, vr x0), (1, vr x1), (2, vi x2), (3, vi x3)] [] σ r τ) (hk : (∀ z, R = (Sum.inl z) → Ev G M_X2_readPhase 77 [(0, vr x0), (2, vi x2)] [] z r τ) ∧ (∀ z, R = (Sum.inr (Sum.inl z)) → Ev G M_X2_readPhase 86 [(0, vr x0), (2, vi x2)] [] z r τ) ∧ (∀ z, R = (Sum.inr (Sum.inr z)) → Ev G M_X2_readPhase 123 [(0, vr x0), (2, vi x2)] [] z r τ)) : Ev G M_X2_readPhase 80 [(0, vr x0), (1, vr x1), (2, vi x2), (3, vi x3)] [] σ r τ := by
  unfold D_X2_readPhase_80 at hD
  refine ev_iload_n dX2_readPhase_80 3 rfl rfl ?_
  refine ev_bp dX2_readPhase_81 rfl ?_
  by_cases c : x3 ≠ 6
  · rw [if_pos c] at hD
    refine ev_icmp_ne_t (tgt := 98) dX2_readPhase_83 (by decide) c ?_
    refine ev_aload_n dX2_readPhase_98 1 rfl rfl ?_
    obtain ⟨v1, g, hD⟩ := bd hD
    refine ew_getR 1 1 dX2_readPhase_99 rfl (Nat.le_of_ble_eq_true rfl) w_216 in_X1 rfl g ?_
    refine ev_iload_n dX2_readPhase_102 3 rfl rfl ?_
    refine ev_aload_n dX2_readPhase_103 0 rfl rfl ?_
    refine ev_aload_n dX2_readPhase_104 1 rfl rfl ?_
    refine ev_iload_n dX2_readPhase_105 2 rfl rfl ?_
    obtain ⟨_, g0, hD⟩ := bd hD
    obtain ⟨r2, g, hD⟩ := bd hD
    refine ew_callVv (as := [vr x1, vi x2]) (a := x0) (rest := [vi x3, vr v1]) dX2_readPhase_106 v_X2_readMember w_915 rfl (Nat.le_of_ble_eq_true rfl) rfl rfl g0 (Nat.le_of_ble_eq_true rfl) (Nat.le_of_ble_eq_true rfl) (ct_X2_readMember g) ?_
    obtain ⟨s3, g, hD⟩ := bd hD
    refine ew_iast dX2_readPhase_109 g ?_
    refine ev_aload_n dX2_readPhase_110 1 rfl rfl ?_
    refine ev_iload_n dX2_readPhase_111 3 rfl rfl ?_
    refine ev_iconst dX2_readPhase_112 (mi_c rfl) ?_
    refine ev_iadd dX2_readPhase_113 ?_
    obtain ⟨s4, g, hD⟩ := bd hD
    refine ew_putI 1 0 dX2_readPhase_114 rfl (Nat.le_of_ble_eq_true rfl) w_211 in_X1 tyX1_ok nmX1 (Or.inl rfl) rfl g ?_
    refine ev_iinc dX2_readPhase_117 3 rfl (Nat.le_of_ble_eq_true rfl) rfl ?_
    refine ev_goto (tgt := 49) dX2_readPhase_120 (by decide) ?_
    refine Ev.pick [1, 2, 3, 0] rfl ?_
    exact hrec hD hk
  · rw [if_neg c] at hD
    refine ev_icmp_ne_f 98 dX2_readPhase_83 (by decide) c ?_
    cases hD
    refine Ev.pick [0, 2] rfl ?_
    exact hk.2.1 _ rfl
def D_X2_readPhase_49 : Nat → Nat → Nat → Int → Int → mS → Option (mS ⊕ mS ⊕ mS)
  | 0, _, _, _, _, _ => none
  | f + 1, x0, x1, x2, x3, σ =>
    if 6 < x3 then
      some (Sum.inr (Sum.inr σ))
    else
      (gI σ x0 2 1).bind fun v1 =>
      if v1 ≠ 0 then
        some (Sum.inr (Sum.inr σ))
      else
        if x3 < 1 then
          D_X2_readPhase_80 (D_X2_readPhase_49 f) x0 x1 x2 x3 σ
        else
          (tgO σ x0 2).bind fun _ =>
          (D_X2_peek x0 σ).bind fun r2 =>
          (D_X2_isLetter r2.1 r2.2).bind fun r3 =>
          if r3 ≠ 0 then
            D_X2_readPhase_80 (D_X2_readPhase_49 f) x0 x1 x2 x3 r2.2
          else
            some (Sum.inl r2.2)
set_option maxRecDepth 100000 in
set_option maxHeartbeats 4000000 in
theorem lk_X2_readPhase_49 {G : mG} (f : Nat) : ∀ {x0 : Nat} {x1 : Nat} {x2 : Int} {x3 : Int} {σ : mS} {R : (mS ⊕ mS ⊕ mS)}, D_X2_readPhase_49 f x0 x1 x2 x3 σ = some R → ∀ {r : mX} {τ : mS}, (∀ z, R = (Sum.inl z) → Ev G M_X2_readPhase 77 [(0, vr x0), (2, vi x2)] [] z r τ) ∧ (∀ z, R = (Sum.inr (Sum.inl z)) → Ev G M_X2_readPhase 86 [(0, vr x0), (2, vi x2)] [] z r τ) ∧ (∀ z, R = (Sum.inr (Sum.inr z)) → Ev G M_X2_readPhase 123 [(0, vr x0), (2, vi x2)] [] z r τ) → Ev G M_X2_readPhase 49 [(0, vr x0), (1, vr x1), (2, vi x2), (3, vi x3)] [] σ r τ := by
  induction f with
  | zero =>
    intros
    rename_i hD _ _ _
    cases hD
  | succ f ih =>
    intro x0 x1 x2 x3 σ R hD r τ hk
    have hrec := @ih
    rw [D_X2_readPhase_49] at hD
    refine ev_iload_n dX2_readPhase_49 3 rfl rfl ?_
    refine ev_bp dX2_readPhase_50 rfl ?_
    by_cases c : 6 < x3
    · rw [if_pos c] at hD
      refine ev_icmp_gt_t (tgt := 123) dX2_readPhase_52 (by decide) c ?_
      cases hD
      refine Ev.pick [0, 2] rfl ?_
      exact hk.2.2 _ rfl
    · rw [if_neg c] at hD
      refine ev_icmp_gt_f 123 dX2_readPhase_52 (by decide) c ?_
      refine ev_aload_n dX2_readPhase_55 0 rfl rfl ?_
      obtain ⟨v1, g, hD⟩ := bd hD
      refine ew_getI 2 1 dX2_readPhase_56 rfl (Nat.le_of_ble_eq_true rfl) w_341 in_X2 rfl g ?_
      by_cases c : v1 ≠ 0
      · rw [if_pos c] at hD
        refine ev_if_ne_t (tgt := 123) dX2_readPhase_59 (by decide) c ?_
        cases hD
        refine Ev.pick [0, 2] rfl ?_
        exact hk.2.2 _ rfl
      · rw [if_neg c] at hD
        refine ev_if_ne_f 123 dX2_readPhase_59 (by decide) c ?_
        refine ev_iload_n dX2_readPhase_62 3 rfl rfl ?_
        refine ev_iconst dX2_readPhase_63 (mi_c rfl) ?_
        by_cases c : x3 < 1
        · rw [if_pos c] at hD
          refine ev_icmp_lt_t (tgt := 80) dX2_readPhase_64 (by decide) c ?_
          exact lk_X2_readPhase_80 hD hrec hk
        · rw [if_neg c] at hD
          refine ev_icmp_lt_f 80 dX2_readPhase_64 (by decide) c ?_
          refine ev_aload_n dX2_readPhase_67 0 rfl rfl ?_
          obtain ⟨_, g0, hD⟩ := bd hD
          obtain ⟨r2, g, hD⟩ := bd hD
          refine ew_callVv (as := []) (a := x0) (rest := []) dX2_readPhase_68 v_X2_peek w_797 rfl (Nat.le_of_ble_eq_true rfl) rfl rfl g0 (Nat.le_of_ble_eq_true rfl) (Nat.le_of_ble_eq_true rfl) (ct_X2_peek g) ?_
          obtain ⟨r3, g, hD⟩ := bd hD
          refine ew_callSv (as := [vi r2.1]) (rest := []) dX2_readPhase_71 v_X2_isLetter w_801 rfl (Nat.le_of_ble_eq_true rfl) (Nat.le_of_ble_eq_true rfl) (Nat.le_of_ble_eq_true rfl) (ct_X2_isLetter g) ?_
          by_cases c : r3 ≠ 0
          · rw [if_pos c] at hD
            refine ev_if_ne_t (tgt := 80) dX2_readPhase_74 (by decide) c ?_
            exact lk_X2_readPhase_80 hD hrec hk
          · rw [if_neg c] at hD
            refine ev_if_ne_f 80 dX2_readPhase_74 (by decide) c ?_
            cases hD
            refine Ev.pick [0, 2] rfl ?_
            exact hk.1 _ rfl
def D_X2_readPhase_123 (x0 : Nat) (x2 : Int) (σ : mS) : Option mS :=
  (tgO σ x0 2).bind fun _ =>
  (D_X2_readSign x0 59 σ).bind fun r1 =>
  (gR r1 x0 2 11).bind fun v2 =>
  (gR r1 x0 2 0).bind fun v3 =>
  (gI r1 v3 5 4).bind fun v4 =>
  (sI r1 v2 v4 x2).bind fun s5 =>
  (gR s5 x0 2 0).bind fun v6 =>
  (gI s5 v6 5 4).bind fun v7 =>
  (pI s5 v6 5 4 (mw (v7 + 1))).bind fun s8 =>
  some s8
set_option maxRecDepth 100000 in
set_option maxHeartbeats 4000000 in
theorem lk_X2_readPhase_123 {G : mG} {x0 : Nat} {x2 : Int} {σ : mS} {R : mS} (hD : D_X2_readPhase_123 x0 x2 σ = some R) : Ev G M_X2_readPhase 123 [(0, vr x0), (2, vi x2)] [] σ (.inl none) R := by
  unfold D_X2_readPhase_123 at hD
  refine ev_aload_n dX2_readPhase_123 0 rfl rfl ?_
  refine ev_bp dX2_readPhase_124 rfl ?_
  obtain ⟨_, g0, hD⟩ := bd hD
  obtain ⟨r1, g, hD⟩ := bd hD
  refine ew_callV0 (as := [vi 59]) (a := x0) (rest := []) dX2_readPhase_126 v_X2_readSign w_880 rfl (Nat.le_of_ble_eq_true rfl) rfl rfl g0 (Nat.le_of_ble_eq_true rfl) (Nat.le_of_ble_eq_true rfl) (ct_X2_readSign g) ?_
  refine ev_aload_n dX2_readPhase_129 0 rfl rfl ?_
  obtain ⟨v2, g, hD⟩ := bd hD
  refine ew_getR 2 11 dX2_readPhase_130 rfl (Nat.le_of_ble_eq_true rfl) w_353 in_X2 rfl g ?_
  refine ev_aload_n dX2_readPhase_133 0 rfl rfl ?_
  obtain ⟨v3, g, hD⟩ := bd hD
  refine ew_getR 2 0 dX2_readPhase_134 rfl (Nat.le_of_ble_eq_true rfl) w_339 in_X2 rfl g ?_
  obtain ⟨v4, g, hD⟩ := bd hD
  refine ew_getI 5 4 dX2_readPhase_137 rfl (Nat.le_of_ble_eq_true rfl) w_281 in_X5 rfl g ?_
  refine ev_iload_n dX2_readPhase_140 1 rfl rfl ?_
  obtain ⟨s5, g, hD⟩ := bd hD
  refine ew_iast dX2_readPhase_141 g ?_
  refine ev_aload_n dX2_readPhase_142 0 rfl rfl ?_
  obtain ⟨v6, g, hD⟩ := bd hD
  refine ew_getR 2 0 dX2_readPhase_143 rfl (Nat.le_of_ble_eq_true rfl) w_339 in_X2 rfl g ?_
  refine ev_dup dX2_readPhase_146 rfl ?_
  obtain ⟨v7, g, hD⟩ := bd hD
  refine ew_getI 5 4 dX2_readPhase_147 rfl (Nat.le_of_ble_eq_true rfl) w_281 in_X5 rfl g ?_
  refine ev_iconst dX2_readPhase_150 (mi_c rfl) ?_
  refine ev_iadd dX2_readPhase_151 ?_
  obtain ⟨s8, g, hD⟩ := bd hD
  refine ew_putI 5 4 dX2_readPhase_152 rfl (Nat.le_of_ble_eq_true rfl) w_281 in_X5 tyX5_ok nmX5 (Or.inl rfl) rfl g ?_
  cases hD
  exact ev_ret none dX2_readPhase_155 True.intro
def D_X2_readPhase (x0 : Nat) (σ : mS) : Option mS :=
  (gR σ x0 2 0).bind fun v1 =>
  (gI σ v1 5 4).bind fun v2 =>
  if v2 < 4 then
    (gR σ x0 2 0).bind fun v3 =>
    (gR σ v3 5 9).bind fun v4 =>
    (gR σ x0 2 0).bind fun v5 =>
    (gI σ v5 5 4).bind fun v6 =>
    (lR σ v4 v6).bind fun v7 =>
    (tgO σ x0 2).bind fun _ =>
    (D_X2_readNewName x0 σ).bind fun r8 =>
    (pI r8.2 v7 1 0 0).bind fun s9 =>
    (D_X2_readPhase_49 mFU x0 v7 r8.1 0 s9).bind fun r10 =>
    match r10 with
    | (Sum.inl z11) =>
      D_X2_readPhase_123 x0 r8.1 z11
    | (Sum.inr (Sum.inl z12)) =>
      (gI z12 x0 2 5).bind fun v13 =>
      (tgO z12 x0 2).bind fun _ =>
      (D_X2_fail x0 3 v13 z12).bind fun r14 =>
      D_X2_readPhase_123 x0 r8.1 r14
    | (Sum.inr (Sum.inr z15)) =>
      D_X2_readPhase_123 x0 r8.1 z15
  else
    (gI σ x0 2 6).bind fun v16 =>
    (tgO σ x0 2).bind fun _ =>
    (D_X2_fail x0 3 v16 σ).bind fun r17 =>
    some r17
set_option maxRecDepth 100000 in
set_option maxHeartbeats 4000000 in
theorem lk_X2_readPhase {G : mG} {x0 : Nat} {σ : mS} {R : mS} (hD : D_X2_readPhase x0 σ = some R) : Ev G M_X2_readPhase 0 [(0, vr x0)] [] σ (.inl none) R := by
  unfold D_X2_readPhase at hD
  refine ev_aload_n dX2_readPhase_0 0 rfl rfl ?_
  obtain ⟨v1, g, hD⟩ := bd hD
  refine ew_getR 2 0 dX2_readPhase_1 rfl (Nat.le_of_ble_eq_true rfl) w_339 in_X2 rfl g ?_
  obtain ⟨v2, g, hD⟩ := bd hD
  refine ew_getI 5 4 dX2_readPhase_4 rfl (Nat.le_of_ble_eq_true rfl) w_281 in_X5 rfl g ?_
  refine ev_iconst dX2_readPhase_7 (mi_c rfl) ?_
  by_cases c : v2 < 4
  · rw [if_pos c] at hD
    refine ev_icmp_lt_t (tgt := 21) dX2_readPhase_8 (by decide) c ?_
    refine ev_aload_n dX2_readPhase_21 0 rfl rfl ?_
    obtain ⟨v3, g, hD⟩ := bd hD
    refine ew_getR 2 0 dX2_readPhase_22 rfl (Nat.le_of_ble_eq_true rfl) w_339 in_X2 rfl g ?_
    obtain ⟨v4, g, hD⟩ := bd hD
    refine ew_getR 5 9 dX2_readPhase_25 rfl (Nat.le_of_ble_eq_true rfl) w_300 in_X5 rfl g ?_
    refine ev_aload_n dX2_readPhase_28 0 rfl rfl ?_
    obtain ⟨v5, g, hD⟩ := bd hD
    refine ew_getR 2 0 dX2_readPhase_29 rfl (Nat.le_of_ble_eq_true rfl) w_339 in_X2 rfl g ?_
    obtain ⟨v6, g, hD⟩ := bd hD
    refine ew_getI 5 4 dX2_readPhase_32 rfl (Nat.le_of_ble_eq_true rfl) w_281 in_X5 rfl g ?_
    obtain ⟨v7, g, hD⟩ := bd hD
    refine ew_aald dX2_readPhase_35 g ?_
    refine ev_astore_n dX2_readPhase_36 rfl (Nat.le_of_ble_eq_true rfl) rfl ?_
    refine ev_aload_n dX2_readPhase_37 1 rfl rfl ?_
    obtain ⟨_, g0, hD⟩ := bd hD
    obtain ⟨r8, g, hD⟩ := bd hD
    refine ew_callVv (as := []) (a := x0) (rest := []) dX2_readPhase_38 v_X2_readNewName w_896 rfl (Nat.le_of_ble_eq_true rfl) rfl rfl g0 (Nat.le_of_ble_eq_true rfl) (Nat.le_of_ble_eq_true rfl) (ct_X2_readNewName g) ?_
    refine ev_istore_n dX2_readPhase_41 rfl (Nat.le_of_ble_eq_true rfl) rfl ?_
    refine ev_aload_n dX2_readPhase_42 1 rfl rfl ?_
    refine ev_iconst dX2_readPhase_43 (mi_c rfl) ?_
    obtain ⟨s9, g, hD⟩ := bd hD
    refine ew_putI 1 0 dX2_readPhase_44 rfl (Nat.le_of_ble_eq_true rfl) w_211 in_X1 tyX1_ok nmX1 (Or.inl rfl) rfl g ?_
    refine ev_iconst dX2_readPhase_47 (mi_c rfl) ?_
    refine ev_istore_n dX2_readPhase_48 rfl (Nat.le_of_ble_eq_true rfl) rfl ?_
    obtain ⟨r10, g, hD⟩ := bd hD
    refine Ev.pick [3, 2, 1, 0] rfl ?_
    rcases r10 with z11 | z12 | z15
    · refine lk_X2_readPhase_49 mFU g ⟨(fun _ hz => ?_), (fun _ hz => nomatch hz), (fun _ hz => nomatch hz)⟩
      cases hz
      refine ev_goto (tgt := 123) dX2_readPhase_77 (by decide) ?_
      exact lk_X2_readPhase_123 hD
    · refine lk_X2_readPhase_49 mFU g ⟨(fun _ hz => nomatch hz), (fun _ hz => ?_), (fun _ hz => nomatch hz)⟩
      cases hz
      refine ev_aload_n dX2_readPhase_86 0 rfl rfl ?_
      refine ev_iconst dX2_readPhase_87 (mi_c rfl) ?_
      refine ev_aload_n dX2_readPhase_88 0 rfl rfl ?_
      obtain ⟨v13, g, hD⟩ := bd hD
      refine ew_getI 2 5 dX2_readPhase_89 rfl (Nat.le_of_ble_eq_true rfl) w_347 in_X2 rfl g ?_
      obtain ⟨_, g0, hD⟩ := bd hD
      obtain ⟨r14, g, hD⟩ := bd hD
      refine ew_callV0 (as := [vi 3, vi v13]) (a := x0) (rest := []) dX2_readPhase_92 v_X2_fail w_804 rfl (Nat.le_of_ble_eq_true rfl) rfl rfl g0 (Nat.le_of_ble_eq_true rfl) (Nat.le_of_ble_eq_true rfl) (ct_X2_fail g) ?_
      refine ev_goto (tgt := 123) dX2_readPhase_95 (by decide) ?_
      exact lk_X2_readPhase_123 hD
    · refine lk_X2_readPhase_49 mFU g ⟨(fun _ hz => nomatch hz), (fun _ hz => nomatch hz), (fun _ hz => ?_)⟩
      cases hz
      exact lk_X2_readPhase_123 hD
  · rw [if_neg c] at hD
    refine ev_icmp_lt_f 21 dX2_readPhase_8 (by decide) c ?_
    refine ev_aload_n dX2_readPhase_11 0 rfl rfl ?_
    refine ev_iconst dX2_readPhase_12 (mi_c rfl) ?_
    refine ev_aload_n dX2_readPhase_13 0 rfl rfl ?_
    obtain ⟨v16, g, hD⟩ := bd hD
    refine ew_getI 2 6 dX2_readPhase_14 rfl (Nat.le_of_ble_eq_true rfl) w_348 in_X2 rfl g ?_
    obtain ⟨_, g0, hD⟩ := bd hD
    obtain ⟨r17, g, hD⟩ := bd hD
    refine ew_callV0 (as := [vi 3, vi v16]) (a := x0) (rest := []) dX2_readPhase_17 v_X2_fail w_804 rfl (Nat.le_of_ble_eq_true rfl) rfl rfl g0 (Nat.le_of_ble_eq_true rfl) (Nat.le_of_ble_eq_true rfl) (ct_X2_fail g) ?_
    cases hD
    exact ev_ret none dX2_readPhase_20 True.intro
theorem ct_X2_readPhase {G : mG} {x0 : Nat} {σ : mS} {R : mS} (hD : D_X2_readPhase x0 σ = some R) : Ct G M_X2_readPhase [vr x0] σ (.inl none) R := ct_of rfl (by decide +kernel) rfl (Nat.le_of_ble_eq_true rfl) rfl (lk_X2_readPhase hD)
def D_X2_readSigma_16 (x0 : Nat) (σ : mS) : Option mS :=
  (pB σ x0 2 8 1).bind fun s1 =>
  (gR s1 x0 2 0).bind fun v2 =>
  (tgO s1 x0 2).bind fun _ =>
  (D_X2_readNumber x0 1 3 s1).bind fun r3 =>
  (pI r3.2 v2 5 0 r3.1).bind fun s4 =>
  (tgO s4 x0 2).bind fun _ =>
  (D_X2_readSign x0 59 s4).bind fun r5 =>
  some r5
set_option maxRecDepth 100000 in
set_option maxHeartbeats 4000000 in
theorem lk_X2_readSigma_16 {G : mG} {x0 : Nat} {σ : mS} {R : mS} (hD : D_X2_readSigma_16 x0 σ = some R) : Ev G M_X2_readSigma 16 [(0, vr x0)] [] σ (.inl none) R := by
  unfold D_X2_readSigma_16 at hD
  refine ev_aload_n dX2_readSigma_16 0 rfl rfl ?_
  refine ev_iconst dX2_readSigma_17 (mi_c rfl) ?_
  obtain ⟨s1, g, hD⟩ := bd hD
  refine ew_putB 2 8 dX2_readSigma_18 rfl (Nat.le_of_ble_eq_true rfl) w_350 in_X2 tyX2_ok nmX2 (Or.inl rfl) rfl g ?_
  refine ev_aload_n dX2_readSigma_21 0 rfl rfl ?_
  obtain ⟨v2, g, hD⟩ := bd hD
  refine ew_getR 2 0 dX2_readSigma_22 rfl (Nat.le_of_ble_eq_true rfl) w_339 in_X2 rfl g ?_
  refine ev_aload_n dX2_readSigma_25 0 rfl rfl ?_
  refine ev_iconst dX2_readSigma_26 (mi_c rfl) ?_
  refine ev_iconst dX2_readSigma_27 (mi_c rfl) ?_
  obtain ⟨_, g0, hD⟩ := bd hD
  obtain ⟨r3, g, hD⟩ := bd hD
  refine ew_callVv (as := [vi 1, vi 3]) (a := x0) (rest := [vr v2]) dX2_readSigma_28 v_X2_readNumber w_884 rfl (Nat.le_of_ble_eq_true rfl) rfl rfl g0 (Nat.le_of_ble_eq_true rfl) (Nat.le_of_ble_eq_true rfl) (ct_X2_readNumber g) ?_
  obtain ⟨s4, g, hD⟩ := bd hD
  refine ew_putI 5 0 dX2_readSigma_31 rfl (Nat.le_of_ble_eq_true rfl) w_267 in_X5 tyX5_ok nmX5 (Or.inl rfl) rfl g ?_
  refine ev_aload_n dX2_readSigma_34 0 rfl rfl ?_
  refine ev_bp dX2_readSigma_35 rfl ?_
  obtain ⟨_, g0, hD⟩ := bd hD
  obtain ⟨r5, g, hD⟩ := bd hD
  refine ew_callV0 (as := [vi 59]) (a := x0) (rest := []) dX2_readSigma_37 v_X2_readSign w_880 rfl (Nat.le_of_ble_eq_true rfl) rfl rfl g0 (Nat.le_of_ble_eq_true rfl) (Nat.le_of_ble_eq_true rfl) (ct_X2_readSign g) ?_
  cases hD
  exact ev_ret none dX2_readSigma_40 True.intro
def D_X2_readSigma (x0 : Nat) (σ : mS) : Option mS :=
  (gI σ x0 2 8).bind fun v1 =>
  if v1 = 0 then
    D_X2_readSigma_16 x0 σ
  else
    (gI σ x0 2 6).bind fun v2 =>
    (tgO σ x0 2).bind fun _ =>
    (D_X2_fail x0 3 v2 σ).bind fun r3 =>
    D_X2_readSigma_16 x0 r3
set_option maxRecDepth 100000 in
set_option maxHeartbeats 4000000 in
theorem lk_X2_readSigma {G : mG} {x0 : Nat} {σ : mS} {R : mS} (hD : D_X2_readSigma x0 σ = some R) : Ev G M_X2_readSigma 0 [(0, vr x0)] [] σ (.inl none) R := by
  unfold D_X2_readSigma at hD
  refine ev_aload_n dX2_readSigma_0 0 rfl rfl ?_
  obtain ⟨v1, g, hD⟩ := bd hD
  refine ew_getI 2 8 dX2_readSigma_1 rfl (Nat.le_of_ble_eq_true rfl) w_350 in_X2 rfl g ?_
  by_cases c : v1 = 0
  · rw [if_pos c] at hD
    refine ev_if_eq_t (tgt := 16) dX2_readSigma_4 (by decide) c ?_
    exact lk_X2_readSigma_16 hD
  · rw [if_neg c] at hD
    refine ev_if_eq_f 16 dX2_readSigma_4 (by decide) c ?_
    refine ev_aload_n dX2_readSigma_7 0 rfl rfl ?_
    refine ev_iconst dX2_readSigma_8 (mi_c rfl) ?_
    refine ev_aload_n dX2_readSigma_9 0 rfl rfl ?_
    obtain ⟨v2, g, hD⟩ := bd hD
    refine ew_getI 2 6 dX2_readSigma_10 rfl (Nat.le_of_ble_eq_true rfl) w_348 in_X2 rfl g ?_
    obtain ⟨_, g0, hD⟩ := bd hD
    obtain ⟨r3, g, hD⟩ := bd hD
    refine ew_callV0 (as := [vi 3, vi v2]) (a := x0) (rest := []) dX2_readSigma_13 v_X2_fail w_804 rfl (Nat.le_of_ble_eq_true rfl) rfl rfl g0 (Nat.le_of_ble_eq_true rfl) (Nat.le_of_ble_eq_true rfl) (ct_X2_fail g) ?_
    exact lk_X2_readSigma_16 hD
theorem ct_X2_readSigma {G : mG} {x0 : Nat} {σ : mS} {R : mS} (hD : D_X2_readSigma x0 σ = some R) : Ct G M_X2_readSigma [vr x0] σ (.inl none) R := ct_of rfl (by decide +kernel) rfl (Nat.le_of_ble_eq_true rfl) rfl (lk_X2_readSigma hD)
