def D_X7_has_23 (y0 : Int) (σ : mS) : Option Int :=
  (bO y0).bind fun v1 =>
  some v1
set_option maxRecDepth 100000 in
set_option maxHeartbeats 4000000 in
theorem lk_X7_has_23 {G : mG} {y0 : Int} {σ : mS} {R : Int} (hD : D_X7_has_23 y0 σ = some R) : Ev G M_X7_has 23 [] [vi y0] σ (.inl (some (vi R))) σ := by
  unfold D_X7_has_23 at hD
  obtain ⟨v1, gb, hD⟩ := bd hD
  cases hD
  exact ew_retb dX7_has_23 rfl gb
def D_X7_has (x0 : Nat) (x1 : Int) (σ : mS) : Option Int :=
  (lL σ x0 (mshr x1 6)).bind fun v1 =>
  if (mlcmp ((mlushr v1 (mand x1 63)) &&& (1 : BitVec 64)) (0 : BitVec 64)) = 0 then
    D_X7_has_23 0 σ
  else
    D_X7_has_23 1 σ
set_option maxRecDepth 100000 in
set_option maxHeartbeats 4000000 in
theorem lk_X7_has {G : mG} {x0 : Nat} {x1 : Int} {σ : mS} {R : Int} (hD : D_X7_has x0 x1 σ = some R) : Ev G M_X7_has 0 [(0, vr x0), (1, vi x1)] [] σ (.inl (some (vi R))) σ := by
  unfold D_X7_has at hD
  refine ev_aload_n dX7_has_0 0 rfl rfl ?_
  refine ev_iload_n dX7_has_1 1 rfl rfl ?_
  refine ev_bp dX7_has_2 rfl ?_
  refine ev_ishr dX7_has_4 ?_
  obtain ⟨v1, g, hD⟩ := bd hD
  refine ew_lald dX7_has_5 g ?_
  refine ev_iload_n dX7_has_6 1 rfl rfl ?_
  refine ev_bp dX7_has_7 rfl ?_
  refine ev_iand dX7_has_9 ?_
  refine ev_lushr dX7_has_10 ?_
  refine ev_lconst (w := 1) dX7_has_11 rfl ?_
  refine ev_land dX7_has_12 ?_
  refine ev_lconst (w := 0) dX7_has_13 rfl ?_
  refine ev_lcmp dX7_has_14 ?_
  by_cases c : (mlcmp ((mlushr v1 (mand x1 63)) &&& (1 : BitVec 64)) (0 : BitVec 64)) = 0
  · rw [if_pos c] at hD
    refine ev_if_eq_t (tgt := 22) dX7_has_15 (by decide) c ?_
    refine ev_iconst dX7_has_22 (mi_c rfl) ?_
    refine Ev.pick [] rfl ?_
    exact lk_X7_has_23 hD
  · rw [if_neg c] at hD
    refine ev_if_eq_f 22 dX7_has_15 (by decide) c ?_
    refine ev_iconst dX7_has_18 (mi_c rfl) ?_
    refine ev_goto (tgt := 23) dX7_has_19 (by decide) ?_
    refine Ev.pick [] rfl ?_
    exact lk_X7_has_23 hD
theorem ct_X7_has {G : mG} {x0 : Nat} {x1 : Int} {σ : mS} {R : Int} (hD : D_X7_has x0 x1 σ = some R) : Ct G M_X7_has [vr x0, vi x1] σ (.inl (some (vi R))) σ := ct_of rfl (by decide +kernel) rfl (Nat.le_of_ble_eq_true rfl) rfl (lk_X7_has hD)
def D_X7_count_4 : Nat → Nat → Int → Int → mS → Option Int
  | 0, _, _, _, _ => none
  | f + 1, x0, x1, x2, σ =>
    if 16 ≤ x2 then
      some x1
    else
      (lL σ x0 x2).bind fun v1 =>
      (D_J13_bitCount_95d88 v1 σ).bind fun r2 =>
      (D_X7_count_4 f) x0 (mw (x1 + r2)) (mw (x2 + 1)) σ
set_option maxRecDepth 100000 in
set_option maxHeartbeats 4000000 in
theorem lk_X7_count_4 {G : mG} (f : Nat) : ∀ {x0 : Nat} {x1 : Int} {x2 : Int} {σ : mS} {R : Int}, D_X7_count_4 f x0 x1 x2 σ = some R → ∀ {r : mX} {τ : mS}, Ev G M_X7_count 25 [(1, vi (R))] [] σ r τ → Ev G M_X7_count 4 [(0, vr x0), (1, vi x1), (2, vi x2)] [] σ r τ := by
  induction f with
  | zero =>
    intros
    rename_i hD _ _ _
    cases hD
  | succ f ih =>
    intro x0 x1 x2 σ R hD r τ hk
    have hrec := @ih
    rw [D_X7_count_4] at hD
    refine ev_iload_n dX7_count_4 2 rfl rfl ?_
    refine ev_bp dX7_count_5 rfl ?_
    by_cases c : 16 ≤ x2
    · rw [if_pos c] at hD
      refine ev_icmp_ge_t (tgt := 25) dX7_count_7 (by decide) c ?_
      cases hD
      refine Ev.pick [1] rfl ?_
      exact hk
    · rw [if_neg c] at hD
      refine ev_icmp_ge_f 25 dX7_count_7 (by decide) c ?_
      refine ev_iload_n dX7_count_10 1 rfl rfl ?_
      refine ev_aload_n dX7_count_11 0 rfl rfl ?_
      refine ev_iload_n dX7_count_12 2 rfl rfl ?_
      obtain ⟨v1, g, hD⟩ := bd hD
      refine ew_lald dX7_count_13 g ?_
      obtain ⟨r2, g, hD⟩ := bd hD
      refine ew_callSv (as := [vl v1]) (rest := [vi x1]) dX7_count_14 v_J13_bitCount_95d88 w_1098 rfl (Nat.le_of_ble_eq_true rfl) (Nat.le_of_ble_eq_true rfl) (Nat.le_of_ble_eq_true rfl) (ct_J13_bitCount_95d88 g) ?_
      refine ev_iadd dX7_count_17 ?_
      refine ev_istore_n dX7_count_18 rfl (Nat.le_of_ble_eq_true rfl) rfl ?_
      refine ev_iinc dX7_count_19 2 rfl (Nat.le_of_ble_eq_true rfl) rfl ?_
      refine ev_goto (tgt := 4) dX7_count_22 (by decide) ?_
      refine Ev.pick [2, 1, 0] rfl ?_
      exact hrec hD hk
def D_X7_count (x0 : Nat) (σ : mS) : Option Int :=
  (D_X7_count_4 mFU x0 0 0 σ).bind fun r1 =>
  some r1
set_option maxRecDepth 100000 in
set_option maxHeartbeats 4000000 in
theorem lk_X7_count {G : mG} {x0 : Nat} {σ : mS} {R : Int} (hD : D_X7_count x0 σ = some R) : Ev G M_X7_count 0 [(0, vr x0)] [] σ (.inl (some (vi R))) σ := by
  unfold D_X7_count at hD
  refine ev_iconst dX7_count_0 (mi_c rfl) ?_
  refine ev_istore_n dX7_count_1 rfl (Nat.le_of_ble_eq_true rfl) rfl ?_
  refine ev_iconst dX7_count_2 (mi_c rfl) ?_
  refine ev_istore_n dX7_count_3 rfl (Nat.le_of_ble_eq_true rfl) rfl ?_
  obtain ⟨r1, g, hD⟩ := bd hD
  refine Ev.pick [2, 1, 0] rfl ?_
  refine lk_X7_count_4 mFU g ?_
  refine ev_iload_n dX7_count_25 0 rfl rfl ?_
  cases hD
  exact ev_ret (some (vi _)) dX7_count_26 True.intro
theorem ct_X7_count {G : mG} {x0 : Nat} {σ : mS} {R : Int} (hD : D_X7_count x0 σ = some R) : Ct G M_X7_count [vr x0] σ (.inl (some (vi R))) σ := ct_of rfl (by decide +kernel) rfl (Nat.le_of_ble_eq_true rfl) rfl (lk_X7_count hD)
def D_X7_intervals_10 : Nat → Nat → Int → Int → Int → mS → Option Int
  | 0, _, _, _, _, _ => none
  | f + 1, x0, x1, x2, x3, σ =>
    if 1000 ≤ x3 then
      some x1
    else
      if 1000 ≤ x2 then
        some x1
      else
        (D_X7_nextOut x0 x2 σ).bind fun r1 =>
        (D_X7_nextIn x0 r1 σ).bind fun r2 =>
        (D_X7_intervals_10 f) x0 (mw (x1 + 1)) r2 (mw (x3 + 1)) σ
set_option maxRecDepth 100000 in
set_option maxHeartbeats 4000000 in
theorem lk_X7_intervals_10 {G : mG} (f : Nat) : ∀ {x0 : Nat} {x1 : Int} {x2 : Int} {x3 : Int} {σ : mS} {R : Int}, D_X7_intervals_10 f x0 x1 x2 x3 σ = some R → ∀ {r : mX} {τ : mS}, Ev G M_X7_intervals 43 [(1, vi (R))] [] σ r τ → Ev G M_X7_intervals 10 [(0, vr x0), (1, vi x1), (2, vi x2), (3, vi x3)] [] σ r τ := by
  induction f with
  | zero =>
    intros
    rename_i hD _ _ _
    cases hD
  | succ f ih =>
    intro x0 x1 x2 x3 σ R hD r τ hk
    have hrec := @ih
    rw [D_X7_intervals_10] at hD
    refine ev_iload_n dX7_intervals_10 3 rfl rfl ?_
    refine ev_sp dX7_intervals_11 rfl ?_
    by_cases c : 1000 ≤ x3
    · rw [if_pos c] at hD
      refine ev_icmp_ge_t (tgt := 43) dX7_intervals_14 (by decide) c ?_
      cases hD
      refine Ev.pick [1] rfl ?_
      exact hk
    · rw [if_neg c] at hD
      refine ev_icmp_ge_f 43 dX7_intervals_14 (by decide) c ?_
      refine ev_iload_n dX7_intervals_17 2 rfl rfl ?_
      refine ev_sp dX7_intervals_18 rfl ?_
      by_cases c : 1000 ≤ x2
      · rw [if_pos c] at hD
        refine ev_icmp_ge_t (tgt := 43) dX7_intervals_21 (by decide) c ?_
        cases hD
        refine Ev.pick [1] rfl ?_
        exact hk
      · rw [if_neg c] at hD
        refine ev_icmp_ge_f 43 dX7_intervals_21 (by decide) c ?_
        refine ev_iinc dX7_intervals_24 1 rfl (Nat.le_of_ble_eq_true rfl) rfl ?_
        refine ev_aload_n dX7_intervals_27 1 rfl rfl ?_
        refine ev_aload_n dX7_intervals_28 1 rfl rfl ?_
        refine ev_iload_n dX7_intervals_29 2 rfl rfl ?_
        obtain ⟨r1, g, hD⟩ := bd hD
        refine ew_callSv (as := [vr x0, vi x2]) (rest := [vr x0]) dX7_intervals_30 v_X7_nextOut w_1103 rfl (Nat.le_of_ble_eq_true rfl) (Nat.le_of_ble_eq_true rfl) (Nat.le_of_ble_eq_true rfl) (ct_X7_nextOut g) ?_
        obtain ⟨r2, g, hD⟩ := bd hD
        refine ew_callSv (as := [vr x0, vi r1]) (rest := []) dX7_intervals_33 v_X7_nextIn w_1102 rfl (Nat.le_of_ble_eq_true rfl) (Nat.le_of_ble_eq_true rfl) (Nat.le_of_ble_eq_true rfl) (ct_X7_nextIn g) ?_
        refine ev_istore_n dX7_intervals_36 rfl (Nat.le_of_ble_eq_true rfl) rfl ?_
        refine ev_iinc dX7_intervals_37 3 rfl (Nat.le_of_ble_eq_true rfl) rfl ?_
        refine ev_goto (tgt := 10) dX7_intervals_40 (by decide) ?_
        refine Ev.pick [3, 2, 1, 0] rfl ?_
        exact hrec hD hk
def D_X7_intervals_43 (x1 : Int) (σ : mS) : Option Int :=
  some x1
set_option maxRecDepth 100000 in
set_option maxHeartbeats 4000000 in
theorem lk_X7_intervals_43 {G : mG} {x1 : Int} {σ : mS} {R : Int} (hD : D_X7_intervals_43 x1 σ = some R) : Ev G M_X7_intervals 43 [(1, vi x1)] [] σ (.inl (some (vi R))) σ := by
  unfold D_X7_intervals_43 at hD
  refine ev_iload_n dX7_intervals_43 0 rfl rfl ?_
  cases hD
  exact ev_ret (some (vi _)) dX7_intervals_44 True.intro
def D_X7_intervals (x0 : Nat) (σ : mS) : Option Int :=
  (D_X7_nextIn x0 0 σ).bind fun r1 =>
  (D_X7_intervals_10 mFU x0 0 r1 0 σ).bind fun r2 =>
  D_X7_intervals_43 r2 σ
set_option maxRecDepth 100000 in
set_option maxHeartbeats 4000000 in
theorem lk_X7_intervals {G : mG} {x0 : Nat} {σ : mS} {R : Int} (hD : D_X7_intervals x0 σ = some R) : Ev G M_X7_intervals 0 [(0, vr x0)] [] σ (.inl (some (vi R))) σ := by
  unfold D_X7_intervals at hD
  refine ev_iconst dX7_intervals_0 (mi_c rfl) ?_
  refine ev_istore_n dX7_intervals_1 rfl (Nat.le_of_ble_eq_true rfl) rfl ?_
  refine ev_aload_n dX7_intervals_2 1 rfl rfl ?_
  refine ev_iconst dX7_intervals_3 (mi_c rfl) ?_
  obtain ⟨r1, g, hD⟩ := bd hD
  refine ew_callSv (as := [vr x0, vi 0]) (rest := []) dX7_intervals_4 v_X7_nextIn w_1102 rfl (Nat.le_of_ble_eq_true rfl) (Nat.le_of_ble_eq_true rfl) (Nat.le_of_ble_eq_true rfl) (ct_X7_nextIn g) ?_
  refine ev_istore_n dX7_intervals_7 rfl (Nat.le_of_ble_eq_true rfl) rfl ?_
  refine ev_iconst dX7_intervals_8 (mi_c rfl) ?_
  refine ev_istore_n dX7_intervals_9 rfl (Nat.le_of_ble_eq_true rfl) rfl ?_
  obtain ⟨r2, g, hD⟩ := bd hD
  refine Ev.pick [3, 2, 1, 0] rfl ?_
  refine lk_X7_intervals_10 mFU g ?_
  exact lk_X7_intervals_43 hD
theorem ct_X7_intervals {G : mG} {x0 : Nat} {σ : mS} {R : Int} (hD : D_X7_intervals x0 σ = some R) : Ct G M_X7_intervals [vr x0] σ (.inl (some (vi R))) σ := ct_of rfl (by decide +kernel) rfl (Nat.le_of_ble_eq_true rfl) rfl (lk_X7_intervals hD)
def D_X7_intervalStart_18 : Nat → Nat → Int → Int → Int → mS → Option Int
  | 0, _, _, _, _, _ => none
  | f + 1, x0, x1, x2, x3, σ =>
    if x1 ≤ x3 then
      some x2
    else
      if 1000 ≤ x2 then
        some x2
      else
        (D_X7_nextOut x0 x2 σ).bind fun r1 =>
        (D_X7_nextIn x0 r1 σ).bind fun r2 =>
        (D_X7_intervalStart_18 f) x0 x1 r2 (mw (x3 + 1)) σ
set_option maxRecDepth 100000 in
set_option maxHeartbeats 4000000 in
theorem lk_X7_intervalStart_18 {G : mG} (f : Nat) : ∀ {x0 : Nat} {x1 : Int} {x2 : Int} {x3 : Int} {σ : mS} {R : Int}, D_X7_intervalStart_18 f x0 x1 x2 x3 σ = some R → ∀ {r : mX} {τ : mS}, Ev G M_X7_intervalStart 46 [(2, vi (R))] [] σ r τ → Ev G M_X7_intervalStart 18 [(0, vr x0), (1, vi x1), (2, vi x2), (3, vi x3)] [] σ r τ := by
  induction f with
  | zero =>
    intros
    rename_i hD _ _ _
    cases hD
  | succ f ih =>
    intro x0 x1 x2 x3 σ R hD r τ hk
    have hrec := @ih
    rw [D_X7_intervalStart_18] at hD
    refine ev_iload_n dX7_intervalStart_18 3 rfl rfl ?_
    refine ev_iload_n dX7_intervalStart_19 1 rfl rfl ?_
    by_cases c : x1 ≤ x3
    · rw [if_pos c] at hD
      refine ev_icmp_ge_t (tgt := 46) dX7_intervalStart_20 (by decide) c ?_
      cases hD
      refine Ev.pick [2] rfl ?_
      exact hk
    · rw [if_neg c] at hD
      refine ev_icmp_ge_f 46 dX7_intervalStart_20 (by decide) c ?_
      refine ev_iload_n dX7_intervalStart_23 2 rfl rfl ?_
      refine ev_sp dX7_intervalStart_24 rfl ?_
      by_cases c : 1000 ≤ x2
      · rw [if_pos c] at hD
        refine ev_icmp_ge_t (tgt := 46) dX7_intervalStart_27 (by decide) c ?_
        cases hD
        refine Ev.pick [2] rfl ?_
        exact hk
      · rw [if_neg c] at hD
        refine ev_icmp_ge_f 46 dX7_intervalStart_27 (by decide) c ?_
        refine ev_aload_n dX7_intervalStart_30 0 rfl rfl ?_
        refine ev_aload_n dX7_intervalStart_31 0 rfl rfl ?_
        refine ev_iload_n dX7_intervalStart_32 2 rfl rfl ?_
        obtain ⟨r1, g, hD⟩ := bd hD
        refine ew_callSv (as := [vr x0, vi x2]) (rest := [vr x0]) dX7_intervalStart_33 v_X7_nextOut w_1103 rfl (Nat.le_of_ble_eq_true rfl) (Nat.le_of_ble_eq_true rfl) (Nat.le_of_ble_eq_true rfl) (ct_X7_nextOut g) ?_
        obtain ⟨r2, g, hD⟩ := bd hD
        refine ew_callSv (as := [vr x0, vi r1]) (rest := []) dX7_intervalStart_36 v_X7_nextIn w_1102 rfl (Nat.le_of_ble_eq_true rfl) (Nat.le_of_ble_eq_true rfl) (Nat.le_of_ble_eq_true rfl) (ct_X7_nextIn g) ?_
        refine ev_istore_n dX7_intervalStart_39 rfl (Nat.le_of_ble_eq_true rfl) rfl ?_
        refine ev_iinc dX7_intervalStart_40 3 rfl (Nat.le_of_ble_eq_true rfl) rfl ?_
        refine ev_goto (tgt := 18) dX7_intervalStart_43 (by decide) ?_
        refine Ev.pick [2, 3, 1, 0] rfl ?_
        exact hrec hD hk
def D_X7_intervalStart_46 (x2 : Int) (σ : mS) : Option Int :=
  some x2
set_option maxRecDepth 100000 in
set_option maxHeartbeats 4000000 in
theorem lk_X7_intervalStart_46 {G : mG} {x2 : Int} {σ : mS} {R : Int} (hD : D_X7_intervalStart_46 x2 σ = some R) : Ev G M_X7_intervalStart 46 [(2, vi x2)] [] σ (.inl (some (vi R))) σ := by
  unfold D_X7_intervalStart_46 at hD
  refine ev_iload_n dX7_intervalStart_46 0 rfl rfl ?_
  cases hD
  exact ev_ret (some (vi _)) dX7_intervalStart_47 True.intro
def D_X7_intervalStart_15 (x0 : Nat) (x1 : Int) (y0 : Int) (σ : mS) : Option Int :=
  (D_X7_intervalStart_18 mFU x0 x1 y0 0 σ).bind fun r1 =>
  D_X7_intervalStart_46 r1 σ
set_option maxRecDepth 100000 in
set_option maxHeartbeats 4000000 in
theorem lk_X7_intervalStart_15 {G : mG} {x0 : Nat} {x1 : Int} {y0 : Int} {σ : mS} {R : Int} (hD : D_X7_intervalStart_15 x0 x1 y0 σ = some R) : Ev G M_X7_intervalStart 15 [(0, vr x0), (1, vi x1)] [vi y0] σ (.inl (some (vi R))) σ := by
  unfold D_X7_intervalStart_15 at hD
  refine ev_istore_n dX7_intervalStart_15 rfl (Nat.le_of_ble_eq_true rfl) rfl ?_
  refine ev_iconst dX7_intervalStart_16 (mi_c rfl) ?_
  refine ev_istore_n dX7_intervalStart_17 rfl (Nat.le_of_ble_eq_true rfl) rfl ?_
  obtain ⟨r1, g, hD⟩ := bd hD
  refine Ev.pick [2, 3, 1, 0] rfl ?_
  refine lk_X7_intervalStart_18 mFU g ?_
  exact lk_X7_intervalStart_46 hD
def D_X7_intervalStart (x0 : Nat) (x1 : Int) (σ : mS) : Option Int :=
  if 0 ≤ x1 then
    (D_X7_nextIn x0 0 σ).bind fun r1 =>
    D_X7_intervalStart_15 x0 x1 r1 σ
  else
    D_X7_intervalStart_15 x0 x1 1000 σ
set_option maxRecDepth 100000 in
set_option maxHeartbeats 4000000 in
theorem lk_X7_intervalStart {G : mG} {x0 : Nat} {x1 : Int} {σ : mS} {R : Int} (hD : D_X7_intervalStart x0 x1 σ = some R) : Ev G M_X7_intervalStart 0 [(0, vr x0), (1, vi x1)] [] σ (.inl (some (vi R))) σ := by
  unfold D_X7_intervalStart at hD
  refine ev_iload_n dX7_intervalStart_0 1 rfl rfl ?_
  by_cases c : 0 ≤ x1
  · rw [if_pos c] at hD
    refine ev_if_ge_t (tgt := 10) dX7_intervalStart_1 (by decide) c ?_
    refine ev_aload_n dX7_intervalStart_10 0 rfl rfl ?_
    refine ev_iconst dX7_intervalStart_11 (mi_c rfl) ?_
    obtain ⟨r1, g, hD⟩ := bd hD
    refine ew_callSv (as := [vr x0, vi 0]) (rest := []) dX7_intervalStart_12 v_X7_nextIn w_1102 rfl (Nat.le_of_ble_eq_true rfl) (Nat.le_of_ble_eq_true rfl) (Nat.le_of_ble_eq_true rfl) (ct_X7_nextIn g) ?_
    exact lk_X7_intervalStart_15 hD
  · rw [if_neg c] at hD
    refine ev_if_ge_f 10 dX7_intervalStart_1 (by decide) c ?_
    refine ev_sp dX7_intervalStart_4 rfl ?_
    refine ev_goto (tgt := 15) dX7_intervalStart_7 (by decide) ?_
    exact lk_X7_intervalStart_15 hD
theorem ct_X7_intervalStart {G : mG} {x0 : Nat} {x1 : Int} {σ : mS} {R : Int} (hD : D_X7_intervalStart x0 x1 σ = some R) : Ct G M_X7_intervalStart [vr x0, vi x1] σ (.inl (some (vi R))) σ := ct_of rfl (by decide +kernel) rfl (Nat.le_of_ble_eq_true rfl) rfl (lk_X7_intervalStart hD)
