def D_X5_copyFrom_80 : Nat → Nat → Nat → Int → mS → Option mS
  | 0, _, _, _, _ => none
  | f + 1, x0, x1, x2, σ =>
    (gI σ x0 5 3).bind fun v1 =>
    if v1 ≤ x2 then
      some σ
    else
      (gR σ x0 5 8).bind fun v2 =>
      (lR σ v2 x2).bind fun v3 =>
      (gR σ x1 5 8).bind fun v4 =>
      (lR σ v4 x2).bind fun v5 =>
      (tgO σ v3 4).bind fun _ =>
      (D_X4_copyFrom v3 v5 σ).bind fun r6 =>
      (D_X5_copyFrom_80 f) x0 x1 (mw (x2 + 1)) r6
set_option maxRecDepth 100000 in
set_option maxHeartbeats 4000000 in
theorem lk_X5_copyFrom_80 {G : mG} (f : Nat) : ∀ {x0 : Nat} {x1 : Nat} {x2 : Int} {σ : mS} {R : mS}, D_X5_copyFrom_80 f x0 x1 x2 σ = some R → ∀ {r : mX} {τ : mS}, Ev G M_X5_copyFrom 109 [(0, vr x0), (1, vr x1)] [] R r τ → Ev G M_X5_copyFrom 80 [(0, vr x0), (1, vr x1), (2, vi x2)] [] σ r τ := by
  induction f with
  | zero =>
    intros
    rename_i hD _ _ _
    cases hD
  | succ f ih =>
    intro x0 x1 x2 σ R hD r τ hk
    have hrec := @ih
    rw [D_X5_copyFrom_80] at hD
    refine ev_iload_n dX5_copyFrom_80 2 rfl rfl ?_
    refine ev_aload_n dX5_copyFrom_81 0 rfl rfl ?_
    obtain ⟨v1, g, hD⟩ := bd hD
    refine ew_getI 5 3 dX5_copyFrom_82 rfl (Nat.le_of_ble_eq_true rfl) w_275 in_X5 rfl g ?_
    by_cases c : v1 ≤ x2
    · rw [if_pos c] at hD
      refine ev_icmp_ge_t (tgt := 109) dX5_copyFrom_85 (by decide) c ?_
      cases hD
      refine Ev.pick [0, 1] rfl ?_
      exact hk
    · rw [if_neg c] at hD
      refine ev_icmp_ge_f 109 dX5_copyFrom_85 (by decide) c ?_
      refine ev_aload_n dX5_copyFrom_88 0 rfl rfl ?_
      obtain ⟨v2, g, hD⟩ := bd hD
      refine ew_getR 5 8 dX5_copyFrom_89 rfl (Nat.le_of_ble_eq_true rfl) w_294 in_X5 rfl g ?_
      refine ev_iload_n dX5_copyFrom_92 2 rfl rfl ?_
      obtain ⟨v3, g, hD⟩ := bd hD
      refine ew_aald dX5_copyFrom_93 g ?_
      refine ev_aload_n dX5_copyFrom_94 1 rfl rfl ?_
      obtain ⟨v4, g, hD⟩ := bd hD
      refine ew_getR 5 8 dX5_copyFrom_95 rfl (Nat.le_of_ble_eq_true rfl) w_294 in_X5 rfl g ?_
      refine ev_iload_n dX5_copyFrom_98 2 rfl rfl ?_
      obtain ⟨v5, g, hD⟩ := bd hD
      refine ew_aald dX5_copyFrom_99 g ?_
      obtain ⟨_, g0, hD⟩ := bd hD
      obtain ⟨r6, g, hD⟩ := bd hD
      refine ew_callV0 (as := [vr v5]) (a := v3) (rest := []) dX5_copyFrom_100 v_X4_copyFrom w_648 rfl (Nat.le_of_ble_eq_true rfl) rfl rfl g0 (Nat.le_of_ble_eq_true rfl) (Nat.le_of_ble_eq_true rfl) (ct_X4_copyFrom g) ?_
      refine ev_iinc dX5_copyFrom_103 2 rfl (Nat.le_of_ble_eq_true rfl) rfl ?_
      refine ev_goto (tgt := 80) dX5_copyFrom_106 (by decide) ?_
      refine Ev.pick [1, 2, 0] rfl ?_
      exact hrec hD hk
def D_X5_copyFrom_111 : Nat → Nat → Nat → Int → mS → Option mS
  | 0, _, _, _, _ => none
  | f + 1, x0, x1, x2, σ =>
    (gI σ x0 5 4).bind fun v1 =>
    if v1 ≤ x2 then
      some σ
    else
      (gR σ x0 5 9).bind fun v2 =>
      (lR σ v2 x2).bind fun v3 =>
      (gR σ x1 5 9).bind fun v4 =>
      (lR σ v4 x2).bind fun v5 =>
      (tgO σ v3 1).bind fun _ =>
      (D_X1_copyFrom v3 v5 σ).bind fun r6 =>
      (D_X5_copyFrom_111 f) x0 x1 (mw (x2 + 1)) r6
set_option maxRecDepth 100000 in
set_option maxHeartbeats 4000000 in
theorem lk_X5_copyFrom_111 {G : mG} (f : Nat) : ∀ {x0 : Nat} {x1 : Nat} {x2 : Int} {σ : mS} {R : mS}, D_X5_copyFrom_111 f x0 x1 x2 σ = some R → ∀ {r : mX} {τ : mS}, Ev G M_X5_copyFrom 140 [(0, vr x0), (1, vr x1)] [] R r τ → Ev G M_X5_copyFrom 111 [(0, vr x0), (1, vr x1), (2, vi x2)] [] σ r τ := by
  induction f with
  | zero =>
    intros
    rename_i hD _ _ _
    cases hD
  | succ f ih =>
    intro x0 x1 x2 σ R hD r τ hk
    have hrec := @ih
    rw [D_X5_copyFrom_111] at hD
    refine ev_iload_n dX5_copyFrom_111 2 rfl rfl ?_
    refine ev_aload_n dX5_copyFrom_112 0 rfl rfl ?_
    obtain ⟨v1, g, hD⟩ := bd hD
    refine ew_getI 5 4 dX5_copyFrom_113 rfl (Nat.le_of_ble_eq_true rfl) w_280 in_X5 rfl g ?_
    by_cases c : v1 ≤ x2
    · rw [if_pos c] at hD
      refine ev_icmp_ge_t (tgt := 140) dX5_copyFrom_116 (by decide) c ?_
      cases hD
      refine Ev.pick [0, 1] rfl ?_
      exact hk
    · rw [if_neg c] at hD
      refine ev_icmp_ge_f 140 dX5_copyFrom_116 (by decide) c ?_
      refine ev_aload_n dX5_copyFrom_119 0 rfl rfl ?_
      obtain ⟨v2, g, hD⟩ := bd hD
      refine ew_getR 5 9 dX5_copyFrom_120 rfl (Nat.le_of_ble_eq_true rfl) w_298 in_X5 rfl g ?_
      refine ev_iload_n dX5_copyFrom_123 2 rfl rfl ?_
      obtain ⟨v3, g, hD⟩ := bd hD
      refine ew_aald dX5_copyFrom_124 g ?_
      refine ev_aload_n dX5_copyFrom_125 1 rfl rfl ?_
      obtain ⟨v4, g, hD⟩ := bd hD
      refine ew_getR 5 9 dX5_copyFrom_126 rfl (Nat.le_of_ble_eq_true rfl) w_298 in_X5 rfl g ?_
      refine ev_iload_n dX5_copyFrom_129 2 rfl rfl ?_
      obtain ⟨v5, g, hD⟩ := bd hD
      refine ew_aald dX5_copyFrom_130 g ?_
      obtain ⟨_, g0, hD⟩ := bd hD
      obtain ⟨r6, g, hD⟩ := bd hD
      refine ew_callV0 (as := [vr v5]) (a := v3) (rest := []) dX5_copyFrom_131 v_X1_copyFrom w_653 rfl (Nat.le_of_ble_eq_true rfl) rfl rfl g0 (Nat.le_of_ble_eq_true rfl) (Nat.le_of_ble_eq_true rfl) (ct_X1_copyFrom g) ?_
      refine ev_iinc dX5_copyFrom_134 2 rfl (Nat.le_of_ble_eq_true rfl) rfl ?_
      refine ev_goto (tgt := 111) dX5_copyFrom_137 (by decide) ?_
      refine Ev.pick [1, 2, 0] rfl ?_
      exact hrec hD hk
def D_X5_copyFrom_142 : Nat → Nat → Nat → Int → mS → Option mS
  | 0, _, _, _, _ => none
  | f + 1, x0, x1, x2, σ =>
    (gI σ x0 5 5).bind fun v1 =>
    if v1 ≤ x2 then
      some σ
    else
      (gR σ x0 5 10).bind fun v2 =>
      (lR σ v2 x2).bind fun v3 =>
      (gR σ x1 5 10).bind fun v4 =>
      (lR σ v4 x2).bind fun v5 =>
      (tgO σ v3 3).bind fun _ =>
      (D_X3_copyFrom v3 v5 σ).bind fun r6 =>
      (D_X5_copyFrom_142 f) x0 x1 (mw (x2 + 1)) r6
set_option maxRecDepth 100000 in
set_option maxHeartbeats 4000000 in
theorem lk_X5_copyFrom_142 {G : mG} (f : Nat) : ∀ {x0 : Nat} {x1 : Nat} {x2 : Int} {σ : mS} {R : mS}, D_X5_copyFrom_142 f x0 x1 x2 σ = some R → ∀ {r : mX} {τ : mS}, Ev G M_X5_copyFrom 171 [] [] R r τ → Ev G M_X5_copyFrom 142 [(0, vr x0), (1, vr x1), (2, vi x2)] [] σ r τ := by
  induction f with
  | zero =>
    intros
    rename_i hD _ _ _
    cases hD
  | succ f ih =>
    intro x0 x1 x2 σ R hD r τ hk
    have hrec := @ih
    rw [D_X5_copyFrom_142] at hD
    refine ev_iload_n dX5_copyFrom_142 2 rfl rfl ?_
    refine ev_aload_n dX5_copyFrom_143 0 rfl rfl ?_
    obtain ⟨v1, g, hD⟩ := bd hD
    refine ew_getI 5 5 dX5_copyFrom_144 rfl (Nat.le_of_ble_eq_true rfl) w_283 in_X5 rfl g ?_
    by_cases c : v1 ≤ x2
    · rw [if_pos c] at hD
      refine ev_icmp_ge_t (tgt := 171) dX5_copyFrom_147 (by decide) c ?_
      cases hD
      refine Ev.pick [] rfl ?_
      exact hk
    · rw [if_neg c] at hD
      refine ev_icmp_ge_f 171 dX5_copyFrom_147 (by decide) c ?_
      refine ev_aload_n dX5_copyFrom_150 0 rfl rfl ?_
      obtain ⟨v2, g, hD⟩ := bd hD
      refine ew_getR 5 10 dX5_copyFrom_151 rfl (Nat.le_of_ble_eq_true rfl) w_303 in_X5 rfl g ?_
      refine ev_iload_n dX5_copyFrom_154 2 rfl rfl ?_
      obtain ⟨v3, g, hD⟩ := bd hD
      refine ew_aald dX5_copyFrom_155 g ?_
      refine ev_aload_n dX5_copyFrom_156 1 rfl rfl ?_
      obtain ⟨v4, g, hD⟩ := bd hD
      refine ew_getR 5 10 dX5_copyFrom_157 rfl (Nat.le_of_ble_eq_true rfl) w_303 in_X5 rfl g ?_
      refine ev_iload_n dX5_copyFrom_160 2 rfl rfl ?_
      obtain ⟨v5, g, hD⟩ := bd hD
      refine ew_aald dX5_copyFrom_161 g ?_
      obtain ⟨_, g0, hD⟩ := bd hD
      obtain ⟨r6, g, hD⟩ := bd hD
      refine ew_callV0 (as := [vr v5]) (a := v3) (rest := []) dX5_copyFrom_162 v_X3_copyFrom w_658 rfl (Nat.le_of_ble_eq_true rfl) rfl rfl g0 (Nat.le_of_ble_eq_true rfl) (Nat.le_of_ble_eq_true rfl) (ct_X3_copyFrom g) ?_
      refine ev_iinc dX5_copyFrom_165 2 rfl (Nat.le_of_ble_eq_true rfl) rfl ?_
      refine ev_goto (tgt := 142) dX5_copyFrom_168 (by decide) ?_
      refine Ev.pick [1, 2, 0] rfl ?_
      exact hrec hD hk
def D_X5_copyFrom (x0 : Nat) (x1 : Nat) (σ : mS) : Option mS :=
  (gI σ x1 5 0).bind fun v1 =>
  (pI σ x0 5 0 v1).bind fun s2 =>
  (gI s2 x1 5 1).bind fun v3 =>
  (pI s2 x0 5 1 v3).bind fun s4 =>
  (gI s4 x1 5 2).bind fun v5 =>
  (pI s4 x0 5 2 v5).bind fun s6 =>
  (gI s6 x1 5 3).bind fun v7 =>
  (pI s6 x0 5 3 v7).bind fun s8 =>
  (gI s8 x1 5 4).bind fun v9 =>
  (pI s8 x0 5 4 v9).bind fun s10 =>
  (gI s10 x1 5 5).bind fun v11 =>
  (pI s10 x0 5 5 v11).bind fun s12 =>
  (gR s12 x1 5 6).bind fun v13 =>
  (gR s12 x0 5 6).bind fun v14 =>
  (cpI s12 v13 v14 16).bind fun s15 =>
  (gR s15 x1 5 7).bind fun v16 =>
  (gR s15 x0 5 7).bind fun v17 =>
  (cpI s15 v16 v17 16).bind fun s18 =>
  (D_X5_copyFrom_80 mFU x0 x1 0 s18).bind fun r19 =>
  (D_X5_copyFrom_111 mFU x0 x1 0 r19).bind fun r20 =>
  (D_X5_copyFrom_142 mFU x0 x1 0 r20).bind fun r21 =>
  some r21
set_option maxRecDepth 100000 in
set_option maxHeartbeats 4000000 in
theorem lk_X5_copyFrom {G : mG} {x0 : Nat} {x1 : Nat} {σ : mS} {R : mS} (hD : D_X5_copyFrom x0 x1 σ = some R) : Ev G M_X5_copyFrom 0 [(0, vr x0), (1, vr x1)] [] σ (.inl none) R := by
  unfold D_X5_copyFrom at hD
  refine ev_aload_n dX5_copyFrom_0 0 rfl rfl ?_
  refine ev_aload_n dX5_copyFrom_1 1 rfl rfl ?_
  obtain ⟨v1, g, hD⟩ := bd hD
  refine ew_getI 5 0 dX5_copyFrom_2 rfl (Nat.le_of_ble_eq_true rfl) w_265 in_X5 rfl g ?_
  obtain ⟨s2, g, hD⟩ := bd hD
  refine ew_putI 5 0 dX5_copyFrom_5 rfl (Nat.le_of_ble_eq_true rfl) w_265 in_X5 tyX5_ok nmX5 (Or.inl rfl) rfl g ?_
  refine ev_aload_n dX5_copyFrom_8 0 rfl rfl ?_
  refine ev_aload_n dX5_copyFrom_9 1 rfl rfl ?_
  obtain ⟨v3, g, hD⟩ := bd hD
  refine ew_getI 5 1 dX5_copyFrom_10 rfl (Nat.le_of_ble_eq_true rfl) w_268 in_X5 rfl g ?_
  obtain ⟨s4, g, hD⟩ := bd hD
  refine ew_putI 5 1 dX5_copyFrom_13 rfl (Nat.le_of_ble_eq_true rfl) w_268 in_X5 tyX5_ok nmX5 (Or.inl rfl) rfl g ?_
  refine ev_aload_n dX5_copyFrom_16 0 rfl rfl ?_
  refine ev_aload_n dX5_copyFrom_17 1 rfl rfl ?_
  obtain ⟨v5, g, hD⟩ := bd hD
  refine ew_getI 5 2 dX5_copyFrom_18 rfl (Nat.le_of_ble_eq_true rfl) w_272 in_X5 rfl g ?_
  obtain ⟨s6, g, hD⟩ := bd hD
  refine ew_putI 5 2 dX5_copyFrom_21 rfl (Nat.le_of_ble_eq_true rfl) w_272 in_X5 tyX5_ok nmX5 (Or.inl rfl) rfl g ?_
  refine ev_aload_n dX5_copyFrom_24 0 rfl rfl ?_
  refine ev_aload_n dX5_copyFrom_25 1 rfl rfl ?_
  obtain ⟨v7, g, hD⟩ := bd hD
  refine ew_getI 5 3 dX5_copyFrom_26 rfl (Nat.le_of_ble_eq_true rfl) w_275 in_X5 rfl g ?_
  obtain ⟨s8, g, hD⟩ := bd hD
  refine ew_putI 5 3 dX5_copyFrom_29 rfl (Nat.le_of_ble_eq_true rfl) w_275 in_X5 tyX5_ok nmX5 (Or.inl rfl) rfl g ?_
  refine ev_aload_n dX5_copyFrom_32 0 rfl rfl ?_
  refine ev_aload_n dX5_copyFrom_33 1 rfl rfl ?_
  obtain ⟨v9, g, hD⟩ := bd hD
  refine ew_getI 5 4 dX5_copyFrom_34 rfl (Nat.le_of_ble_eq_true rfl) w_280 in_X5 rfl g ?_
  obtain ⟨s10, g, hD⟩ := bd hD
  refine ew_putI 5 4 dX5_copyFrom_37 rfl (Nat.le_of_ble_eq_true rfl) w_280 in_X5 tyX5_ok nmX5 (Or.inl rfl) rfl g ?_
  refine ev_aload_n dX5_copyFrom_40 0 rfl rfl ?_
  refine ev_aload_n dX5_copyFrom_41 1 rfl rfl ?_
  obtain ⟨v11, g, hD⟩ := bd hD
  refine ew_getI 5 5 dX5_copyFrom_42 rfl (Nat.le_of_ble_eq_true rfl) w_283 in_X5 rfl g ?_
  obtain ⟨s12, g, hD⟩ := bd hD
  refine ew_putI 5 5 dX5_copyFrom_45 rfl (Nat.le_of_ble_eq_true rfl) w_283 in_X5 tyX5_ok nmX5 (Or.inl rfl) rfl g ?_
  refine ev_aload_n dX5_copyFrom_48 1 rfl rfl ?_
  obtain ⟨v13, g, hD⟩ := bd hD
  refine ew_getR 5 6 dX5_copyFrom_49 rfl (Nat.le_of_ble_eq_true rfl) w_288 in_X5 rfl g ?_
  refine ev_iconst dX5_copyFrom_52 (mi_c rfl) ?_
  refine ev_aload_n dX5_copyFrom_53 0 rfl rfl ?_
  obtain ⟨v14, g, hD⟩ := bd hD
  refine ew_getR 5 6 dX5_copyFrom_54 rfl (Nat.le_of_ble_eq_true rfl) w_288 in_X5 rfl g ?_
  refine ev_iconst dX5_copyFrom_57 (mi_c rfl) ?_
  refine ev_bp dX5_copyFrom_58 rfl ?_
  obtain ⟨s15, g, hD⟩ := bd hD
  refine ew_copyI dX5_copyFrom_60 w_647 w_525 w_524 w_134 (Nat.le_of_ble_eq_true rfl) (Nat.le_of_ble_eq_true rfl) (Nat.le_of_ble_eq_true rfl) g ?_
  refine ev_aload_n dX5_copyFrom_63 1 rfl rfl ?_
  obtain ⟨v16, g, hD⟩ := bd hD
  refine ew_getR 5 7 dX5_copyFrom_64 rfl (Nat.le_of_ble_eq_true rfl) w_291 in_X5 rfl g ?_
  refine ev_iconst dX5_copyFrom_67 (mi_c rfl) ?_
  refine ev_aload_n dX5_copyFrom_68 0 rfl rfl ?_
  obtain ⟨v17, g, hD⟩ := bd hD
  refine ew_getR 5 7 dX5_copyFrom_69 rfl (Nat.le_of_ble_eq_true rfl) w_291 in_X5 rfl g ?_
  refine ev_iconst dX5_copyFrom_72 (mi_c rfl) ?_
  refine ev_bp dX5_copyFrom_73 rfl ?_
  obtain ⟨s18, g, hD⟩ := bd hD
  refine ew_copyI dX5_copyFrom_75 w_647 w_525 w_524 w_134 (Nat.le_of_ble_eq_true rfl) (Nat.le_of_ble_eq_true rfl) (Nat.le_of_ble_eq_true rfl) g ?_
  refine ev_iconst dX5_copyFrom_78 (mi_c rfl) ?_
  refine ev_istore_n dX5_copyFrom_79 rfl (Nat.le_of_ble_eq_true rfl) rfl ?_
  obtain ⟨r19, g, hD⟩ := bd hD
  refine Ev.pick [1, 2, 0] rfl ?_
  refine lk_X5_copyFrom_80 mFU g ?_
  refine ev_iconst dX5_copyFrom_109 (mi_c rfl) ?_
  refine ev_istore_n dX5_copyFrom_110 rfl (Nat.le_of_ble_eq_true rfl) rfl ?_
  obtain ⟨r20, g, hD⟩ := bd hD
  refine Ev.pick [1, 2, 0] rfl ?_
  refine lk_X5_copyFrom_111 mFU g ?_
  refine ev_iconst dX5_copyFrom_140 (mi_c rfl) ?_
  refine ev_istore_n dX5_copyFrom_141 rfl (Nat.le_of_ble_eq_true rfl) rfl ?_
  obtain ⟨r21, g, hD⟩ := bd hD
  refine Ev.pick [1, 2, 0] rfl ?_
  refine lk_X5_copyFrom_142 mFU g ?_
  cases hD
  exact ev_ret none dX5_copyFrom_171 True.intro
theorem ct_X5_copyFrom {G : mG} {x0 : Nat} {x1 : Nat} {σ : mS} {R : mS} (hD : D_X5_copyFrom x0 x1 σ = some R) : Ct G M_X5_copyFrom [vr x0, vr x1] σ (.inl none) R := ct_of rfl (by decide +kernel) rfl (Nat.le_of_ble_eq_true rfl) rfl (lk_X5_copyFrom hD)
def D_X5_dropRule_4 : Nat → Nat → Int → mS → Option mS
  | 0, _, _, _ => none
  | f + 1, x0, x2, σ =>
    (gI σ x0 5 5).bind fun v1 =>
    if v1 ≤ x2 then
      some σ
    else
      (gR σ x0 5 10).bind fun v2 =>
      (lR σ v2 (mw (x2 - 1))).bind fun v3 =>
      (gR σ x0 5 10).bind fun v4 =>
      (lR σ v4 x2).bind fun v5 =>
      (tgO σ v3 3).bind fun _ =>
      (D_X3_copyFrom v3 v5 σ).bind fun r6 =>
      (D_X5_dropRule_4 f) x0 (mw (x2 + 1)) r6
set_option maxRecDepth 100000 in
set_option maxHeartbeats 4000000 in
theorem lk_X5_dropRule_4 {G : mG} (f : Nat) : ∀ {x0 : Nat} {x2 : Int} {σ : mS} {R : mS}, D_X5_dropRule_4 f x0 x2 σ = some R → ∀ {r : mX} {τ : mS}, Ev G M_X5_dropRule 35 [(0, vr x0)] [] R r τ → Ev G M_X5_dropRule 4 [(0, vr x0), (2, vi x2)] [] σ r τ := by
  induction f with
  | zero =>
    intros
    rename_i hD _ _ _
    cases hD
  | succ f ih =>
    intro x0 x2 σ R hD r τ hk
    have hrec := @ih
    rw [D_X5_dropRule_4] at hD
    refine ev_iload_n dX5_dropRule_4 1 rfl rfl ?_
    refine ev_aload_n dX5_dropRule_5 0 rfl rfl ?_
    obtain ⟨v1, g, hD⟩ := bd hD
    refine ew_getI 5 5 dX5_dropRule_6 rfl (Nat.le_of_ble_eq_true rfl) w_283 in_X5 rfl g ?_
    by_cases c : v1 ≤ x2
    · rw [if_pos c] at hD
      refine ev_icmp_ge_t (tgt := 35) dX5_dropRule_9 (by decide) c ?_
      cases hD
      refine Ev.pick [0] rfl ?_
      exact hk
    · rw [if_neg c] at hD
      refine ev_icmp_ge_f 35 dX5_dropRule_9 (by decide) c ?_
      refine ev_aload_n dX5_dropRule_12 0 rfl rfl ?_
      obtain ⟨v2, g, hD⟩ := bd hD
      refine ew_getR 5 10 dX5_dropRule_13 rfl (Nat.le_of_ble_eq_true rfl) w_303 in_X5 rfl g ?_
      refine ev_iload_n dX5_dropRule_16 1 rfl rfl ?_
      refine ev_iconst dX5_dropRule_17 (mi_c rfl) ?_
      refine ev_isub dX5_dropRule_18 ?_
      obtain ⟨v3, g, hD⟩ := bd hD
      refine ew_aald dX5_dropRule_19 g ?_
      refine ev_aload_n dX5_dropRule_20 0 rfl rfl ?_
      obtain ⟨v4, g, hD⟩ := bd hD
      refine ew_getR 5 10 dX5_dropRule_21 rfl (Nat.le_of_ble_eq_true rfl) w_303 in_X5 rfl g ?_
      refine ev_iload_n dX5_dropRule_24 1 rfl rfl ?_
      obtain ⟨v5, g, hD⟩ := bd hD
      refine ew_aald dX5_dropRule_25 g ?_
      obtain ⟨_, g0, hD⟩ := bd hD
      obtain ⟨r6, g, hD⟩ := bd hD
      refine ew_callV0 (as := [vr v5]) (a := v3) (rest := []) dX5_dropRule_26 v_X3_copyFrom w_658 rfl (Nat.le_of_ble_eq_true rfl) rfl rfl g0 (Nat.le_of_ble_eq_true rfl) (Nat.le_of_ble_eq_true rfl) (ct_X3_copyFrom g) ?_
      refine ev_iinc dX5_dropRule_29 1 rfl (Nat.le_of_ble_eq_true rfl) rfl ?_
      refine ev_goto (tgt := 4) dX5_dropRule_32 (by decide) ?_
      refine Ev.pick [1, 0] rfl ?_
      exact hrec hD hk
def D_X5_dropRule (x0 : Nat) (x1 : Int) (σ : mS) : Option mS :=
  (D_X5_dropRule_4 mFU x0 (mw (x1 + 1)) σ).bind fun r1 =>
  (gI r1 x0 5 5).bind fun v2 =>
  (pI r1 x0 5 5 (mw (v2 - 1))).bind fun s3 =>
  some s3
set_option maxRecDepth 100000 in
set_option maxHeartbeats 4000000 in
theorem lk_X5_dropRule {G : mG} {x0 : Nat} {x1 : Int} {σ : mS} {R : mS} (hD : D_X5_dropRule x0 x1 σ = some R) : Ev G M_X5_dropRule 0 [(0, vr x0), (1, vi x1)] [] σ (.inl none) R := by
  unfold D_X5_dropRule at hD
  refine ev_iload_n dX5_dropRule_0 1 rfl rfl ?_
  refine ev_iconst dX5_dropRule_1 (mi_c rfl) ?_
  refine ev_iadd dX5_dropRule_2 ?_
  refine ev_istore_n dX5_dropRule_3 rfl (Nat.le_of_ble_eq_true rfl) rfl ?_
  obtain ⟨r1, g, hD⟩ := bd hD
  refine Ev.pick [1, 0] rfl ?_
  refine lk_X5_dropRule_4 mFU g ?_
  refine ev_aload_n dX5_dropRule_35 0 rfl rfl ?_
  refine ev_dup dX5_dropRule_36 rfl ?_
  obtain ⟨v2, g, hD⟩ := bd hD
  refine ew_getI 5 5 dX5_dropRule_37 rfl (Nat.le_of_ble_eq_true rfl) w_283 in_X5 rfl g ?_
  refine ev_iconst dX5_dropRule_40 (mi_c rfl) ?_
  refine ev_isub dX5_dropRule_41 ?_
  obtain ⟨s3, g, hD⟩ := bd hD
  refine ew_putI 5 5 dX5_dropRule_42 rfl (Nat.le_of_ble_eq_true rfl) w_283 in_X5 tyX5_ok nmX5 (Or.inl rfl) rfl g ?_
  cases hD
  exact ev_ret none dX5_dropRule_45 True.intro
theorem ct_X5_dropRule {G : mG} {x0 : Nat} {x1 : Int} {σ : mS} {R : mS} (hD : D_X5_dropRule x0 x1 σ = some R) : Ct G M_X5_dropRule [vr x0, vi x1] σ (.inl none) R := ct_of rfl (by decide +kernel) rfl (Nat.le_of_ble_eq_true rfl) rfl (lk_X5_dropRule hD)
def D_X5_layAges_2 : Nat → Nat → Int → mS → Option mS
  | 0, _, _, _ => none
  | f + 1, x1, x2, σ =>
    if 1000 ≤ x2 then
      some σ
    else
      (sI σ x1 x2 ((-1))).bind fun s1 =>
      (D_X5_layAges_2 f) x1 (mw (x2 + 1)) s1
set_option maxRecDepth 100000 in
set_option maxHeartbeats 4000000 in
theorem lk_X5_layAges_2 {G : mG} {x0 : Nat} (f : Nat) : ∀ {x1 : Nat} {x2 : Int} {σ : mS} {R : mS}, D_X5_layAges_2 f x1 x2 σ = some R → ∀ {r : mX} {τ : mS}, Ev G M_X5_layAges 19 [(0, vr x0), (1, vr x1)] [] R r τ → Ev G M_X5_layAges 2 [(0, vr x0), (1, vr x1), (2, vi x2)] [] σ r τ := by
  induction f with
  | zero =>
    intros
    rename_i hD _ _ _
    cases hD
  | succ f ih =>
    intro x1 x2 σ R hD r τ hk
    have hrec := @ih
    rw [D_X5_layAges_2] at hD
    refine ev_iload_n dX5_layAges_2 2 rfl rfl ?_
    refine ev_sp dX5_layAges_3 rfl ?_
    by_cases c : 1000 ≤ x2
    · rw [if_pos c] at hD
      refine ev_icmp_ge_t (tgt := 19) dX5_layAges_6 (by decide) c ?_
      cases hD
      refine Ev.pick [0, 1] rfl ?_
      exact hk
    · rw [if_neg c] at hD
      refine ev_icmp_ge_f 19 dX5_layAges_6 (by decide) c ?_
      refine ev_aload_n dX5_layAges_9 1 rfl rfl ?_
      refine ev_iload_n dX5_layAges_10 2 rfl rfl ?_
      refine ev_iconst dX5_layAges_11 (mi_c rfl) ?_
      obtain ⟨s1, g, hD⟩ := bd hD
      refine ew_iast dX5_layAges_12 g ?_
      refine ev_iinc dX5_layAges_13 2 rfl (Nat.le_of_ble_eq_true rfl) rfl ?_
      refine ev_goto (tgt := 2) dX5_layAges_16 (by decide) ?_
      refine Ev.pick [1, 2, 0] rfl ?_
      exact hrec hD hk
def D_X5_layAges_67 : Nat → Nat → Nat → Int → Int → Int → Int → mS → Option mS
  | 0, _, _, _, _, _, _, _ => none
  | f + 1, x0, x1, x2, x3, x4, x5, σ =>
    if x3 < x5 then
      some σ
    else
      if x3 ≤ 0 then
        some σ
      else
        (gR σ x0 5 6).bind fun v1 =>
        (lI σ v1 x2).bind fun v2 =>
        (gR σ x0 5 7).bind fun v3 =>
        (lI σ v3 x2).bind fun v4 =>
        (dvO (mw (x4 * x5)) x3).bind fun v5 =>
        (sI σ x1 (mw (v2 + x5)) (mw (v4 + v5))).bind fun s6 =>
        (D_X5_layAges_67 f) x0 x1 x2 x3 x4 (mw (x5 + 1)) s6
set_option maxRecDepth 100000 in
set_option maxHeartbeats 4000000 in
theorem lk_X5_layAges_67 {G : mG} (f : Nat) : ∀ {x0 : Nat} {x1 : Nat} {x2 : Int} {x3 : Int} {x4 : Int} {x5 : Int} {σ : mS} {R : mS}, D_X5_layAges_67 f x0 x1 x2 x3 x4 x5 σ = some R → ∀ {r : mX} {τ : mS}, Ev G M_X5_layAges 108 [(0, vr x0), (1, vr x1), (2, vi x2)] [] R r τ → Ev G M_X5_layAges 67 [(0, vr x0), (1, vr x1), (2, vi x2), (3, vi x3), (4, vi x4), (5, vi x5)] [] σ r τ := by
  induction f with
  | zero =>
    intros
    rename_i hD _ _ _
    cases hD
  | succ f ih =>
    intro x0 x1 x2 x3 x4 x5 σ R hD r τ hk
    have hrec := @ih
    rw [D_X5_layAges_67] at hD
    refine ev_iload dX5_layAges_67 5 rfl ?_
    refine ev_iload_n dX5_layAges_69 3 rfl rfl ?_
    by_cases c : x3 < x5
    · rw [if_pos c] at hD
      refine ev_icmp_gt_t (tgt := 108) dX5_layAges_70 (by decide) c ?_
      cases hD
      refine Ev.pick [0, 1, 2] rfl ?_
      exact hk
    · rw [if_neg c] at hD
      refine ev_icmp_gt_f 108 dX5_layAges_70 (by decide) c ?_
      refine ev_iload_n dX5_layAges_73 3 rfl rfl ?_
      by_cases c : x3 ≤ 0
      · rw [if_pos c] at hD
        refine ev_if_le_t (tgt := 108) dX5_layAges_74 (by decide) c ?_
        cases hD
        refine Ev.pick [0, 1, 2] rfl ?_
        exact hk
      · rw [if_neg c] at hD
        refine ev_if_le_f 108 dX5_layAges_74 (by decide) c ?_
        refine ev_aload_n dX5_layAges_77 1 rfl rfl ?_
        refine ev_aload_n dX5_layAges_78 0 rfl rfl ?_
        obtain ⟨v1, g, hD⟩ := bd hD
        refine ew_getR 5 6 dX5_layAges_79 rfl (Nat.le_of_ble_eq_true rfl) w_288 in_X5 rfl g ?_
        refine ev_iload_n dX5_layAges_82 2 rfl rfl ?_
        obtain ⟨v2, g, hD⟩ := bd hD
        refine ew_iald dX5_layAges_83 g ?_
        refine ev_iload dX5_layAges_84 5 rfl ?_
        refine ev_iadd dX5_layAges_86 ?_
        refine ev_aload_n dX5_layAges_87 0 rfl rfl ?_
        obtain ⟨v3, g, hD⟩ := bd hD
        refine ew_getR 5 7 dX5_layAges_88 rfl (Nat.le_of_ble_eq_true rfl) w_291 in_X5 rfl g ?_
        refine ev_iload_n dX5_layAges_91 2 rfl rfl ?_
        obtain ⟨v4, g, hD⟩ := bd hD
        refine ew_iald dX5_layAges_92 g ?_
        refine ev_iload dX5_layAges_93 4 rfl ?_
        refine ev_iload dX5_layAges_95 5 rfl ?_
        refine ev_imul dX5_layAges_97 ?_
        refine ev_iload_n dX5_layAges_98 3 rfl rfl ?_
        obtain ⟨v5, g, hD⟩ := bd hD
        refine ew_idiv dX5_layAges_99 g ?_
        refine ev_iadd dX5_layAges_100 ?_
        obtain ⟨s6, g, hD⟩ := bd hD
        refine ew_iast dX5_layAges_101 g ?_
        refine ev_iinc dX5_layAges_102 5 rfl (Nat.le_of_ble_eq_true rfl) rfl ?_
        refine ev_goto (tgt := 67) dX5_layAges_105 (by decide) ?_
        refine Ev.pick [1, 2, 3, 4, 5, 0] rfl ?_
        exact hrec hD hk
def D_X5_layAges_108 (rec : Nat → Nat → Int → mS → Option mS) (x0 : Nat) (x1 : Nat) (x2 : Int) (σ : mS) : Option mS :=
  rec x0 x1 (mw (x2 + 1)) σ
set_option maxRecDepth 100000 in
set_option maxHeartbeats 4000000 in
theorem lk_X5_layAges_108 {G : mG} {rec : Nat → Nat → Int → mS → Option mS} {x0 : Nat} {x1 : Nat} {x2 : Int} {σ : mS} {R : mS} {r : mX} {τ : mS} (hD : D_X5_layAges_108 rec x0 x1 x2 σ = some R) (hrec : ∀ {x0 : Nat} {x1 : Nat} {x2 : Int} {σ : mS} {R : mS}, rec x0 x1 x2 σ = some R → ∀ {r : mX} {τ : mS}, Ev G M_X5_layAges 114 [] [] R r τ → Ev G M_X5_layAges 21 [(0, vr x0), (1, vr x1), (2, vi x2)] [] σ r τ) (hk : Ev G M_X5_layAges 114 [] [] R r τ) : Ev G M_X5_layAges 108 [(0, vr x0), (1, vr x1), (2, vi x2)] [] σ r τ := by
  unfold D_X5_layAges_108 at hD
  refine ev_iinc dX5_layAges_108 2 rfl (Nat.le_of_ble_eq_true rfl) rfl ?_
  refine ev_goto (tgt := 21) dX5_layAges_111 (by decide) ?_
  refine Ev.pick [1, 2, 0] rfl ?_
  exact hrec hD hk
def D_X5_layAges_21 : Nat → Nat → Nat → Int → mS → Option mS
  | 0, _, _, _, _ => none
  | f + 1, x0, x1, x2, σ =>
    (gI σ x0 5 2).bind fun v1 =>
    if v1 ≤ (mw (x2 + 1)) then
      some σ
    else
      (gR σ x0 5 6).bind fun v2 =>
      (lI σ v2 (mw (x2 + 1))).bind fun v3 =>
      (gR σ x0 5 6).bind fun v4 =>
      (lI σ v4 x2).bind fun v5 =>
      (gR σ x0 5 7).bind fun v6 =>
      (lI σ v6 (mw (x2 + 1))).bind fun v7 =>
      (gR σ x0 5 7).bind fun v8 =>
      (lI σ v8 x2).bind fun v9 =>
      (D_X5_layAges_67 mFU x0 x1 x2 (mw (v3 - v5)) (mw (v7 - v9)) 0 σ).bind fun r10 =>
      D_X5_layAges_108 (D_X5_layAges_21 f) x0 x1 x2 r10
set_option maxRecDepth 100000 in
set_option maxHeartbeats 4000000 in
theorem lk_X5_layAges_21 {G : mG} (f : Nat) : ∀ {x0 : Nat} {x1 : Nat} {x2 : Int} {σ : mS} {R : mS}, D_X5_layAges_21 f x0 x1 x2 σ = some R → ∀ {r : mX} {τ : mS}, Ev G M_X5_layAges 114 [] [] R r τ → Ev G M_X5_layAges 21 [(0, vr x0), (1, vr x1), (2, vi x2)] [] σ r τ := by
  induction f with
  | zero =>
    intros
    rename_i hD _ _ _
    cases hD
  | succ f ih =>
    intro x0 x1 x2 σ R hD r τ hk
    have hrec := @ih
    rw [D_X5_layAges_21] at hD
    refine ev_iload_n dX5_layAges_21 2 rfl rfl ?_
    refine ev_iconst dX5_layAges_22 (mi_c rfl) ?_
    refine ev_iadd dX5_layAges_23 ?_
    refine ev_aload_n dX5_layAges_24 0 rfl rfl ?_
    obtain ⟨v1, g, hD⟩ := bd hD
    refine ew_getI 5 2 dX5_layAges_25 rfl (Nat.le_of_ble_eq_true rfl) w_272 in_X5 rfl g ?_
    by_cases c : v1 ≤ (mw (x2 + 1))
    · rw [if_pos c] at hD
      refine ev_icmp_ge_t (tgt := 114) dX5_layAges_28 (by decide) c ?_
      cases hD
      refine Ev.pick [] rfl ?_
      exact hk
    · rw [if_neg c] at hD
      refine ev_icmp_ge_f 114 dX5_layAges_28 (by decide) c ?_
      refine ev_aload_n dX5_layAges_31 0 rfl rfl ?_
      obtain ⟨v2, g, hD⟩ := bd hD
      refine ew_getR 5 6 dX5_layAges_32 rfl (Nat.le_of_ble_eq_true rfl) w_288 in_X5 rfl g ?_
      refine ev_iload_n dX5_layAges_35 2 rfl rfl ?_
      refine ev_iconst dX5_layAges_36 (mi_c rfl) ?_
      refine ev_iadd dX5_layAges_37 ?_
      obtain ⟨v3, g, hD⟩ := bd hD
      refine ew_iald dX5_layAges_38 g ?_
      refine ev_aload_n dX5_layAges_39 0 rfl rfl ?_
      obtain ⟨v4, g, hD⟩ := bd hD
      refine ew_getR 5 6 dX5_layAges_40 rfl (Nat.le_of_ble_eq_true rfl) w_288 in_X5 rfl g ?_
      refine ev_iload_n dX5_layAges_43 2 rfl rfl ?_
      obtain ⟨v5, g, hD⟩ := bd hD
      refine ew_iald dX5_layAges_44 g ?_
      refine ev_isub dX5_layAges_45 ?_
      refine ev_istore_n dX5_layAges_46 rfl (Nat.le_of_ble_eq_true rfl) rfl ?_
      refine ev_aload_n dX5_layAges_47 1 rfl rfl ?_
      obtain ⟨v6, g, hD⟩ := bd hD
      refine ew_getR 5 7 dX5_layAges_48 rfl (Nat.le_of_ble_eq_true rfl) w_291 in_X5 rfl g ?_
      refine ev_iload_n dX5_layAges_51 3 rfl rfl ?_
      refine ev_iconst dX5_layAges_52 (mi_c rfl) ?_
      refine ev_iadd dX5_layAges_53 ?_
      obtain ⟨v7, g, hD⟩ := bd hD
      refine ew_iald dX5_layAges_54 g ?_
      refine ev_aload_n dX5_layAges_55 1 rfl rfl ?_
      obtain ⟨v8, g, hD⟩ := bd hD
      refine ew_getR 5 7 dX5_layAges_56 rfl (Nat.le_of_ble_eq_true rfl) w_291 in_X5 rfl g ?_
      refine ev_iload_n dX5_layAges_59 3 rfl rfl ?_
      obtain ⟨v9, g, hD⟩ := bd hD
      refine ew_iald dX5_layAges_60 g ?_
      refine ev_isub dX5_layAges_61 ?_
      refine ev_istore dX5_layAges_62 (Nat.le_of_ble_eq_true rfl) rfl ?_
      refine ev_iconst dX5_layAges_64 (mi_c rfl) ?_
      refine ev_istore dX5_layAges_65 (Nat.le_of_ble_eq_true rfl) rfl ?_
      obtain ⟨r10, g, hD⟩ := bd hD
      refine Ev.pick [3, 4, 5, 2, 1, 0] rfl ?_
      refine lk_X5_layAges_67 mFU g ?_
      exact lk_X5_layAges_108 hD hrec hk
def D_X5_layAges (x0 : Nat) (x1 : Nat) (σ : mS) : Option mS :=
  (D_X5_layAges_2 mFU x1 0 σ).bind fun r1 =>
  (D_X5_layAges_21 mFU x0 x1 0 r1).bind fun r2 =>
  some r2
set_option maxRecDepth 100000 in
set_option maxHeartbeats 4000000 in
theorem lk_X5_layAges {G : mG} {x0 : Nat} {x1 : Nat} {σ : mS} {R : mS} (hD : D_X5_layAges x0 x1 σ = some R) : Ev G M_X5_layAges 0 [(0, vr x0), (1, vr x1)] [] σ (.inl none) R := by
  unfold D_X5_layAges at hD
  refine ev_iconst dX5_layAges_0 (mi_c rfl) ?_
  refine ev_istore_n dX5_layAges_1 rfl (Nat.le_of_ble_eq_true rfl) rfl ?_
  obtain ⟨r1, g, hD⟩ := bd hD
  refine Ev.pick [1, 2, 0] rfl ?_
  refine lk_X5_layAges_2 mFU g ?_
  refine ev_iconst dX5_layAges_19 (mi_c rfl) ?_
  refine ev_istore_n dX5_layAges_20 rfl (Nat.le_of_ble_eq_true rfl) rfl ?_
  obtain ⟨r2, g, hD⟩ := bd hD
  refine Ev.pick [1, 2, 0] rfl ?_
  refine lk_X5_layAges_21 mFU g ?_
  cases hD
  exact ev_ret none dX5_layAges_114 True.intro
theorem ct_X5_layAges {G : mG} {x0 : Nat} {x1 : Nat} {σ : mS} {R : mS} (hD : D_X5_layAges x0 x1 σ = some R) : Ct G M_X5_layAges [vr x0, vr x1] σ (.inl none) R := ct_of rfl (by decide +kernel) rfl (Nat.le_of_ble_eq_true rfl) rfl (lk_X5_layAges hD)
