def D_X8_renew (x0 : Nat) (σ : mS) : Option mS :=
  (gR σ x0 7 9).bind fun v1 =>
  (gR σ x0 7 1).bind fun v2 =>
  (gI σ v2 5 0).bind fun v3 =>
  (gR σ x0 7 1).bind fun v4 =>
  (gI σ v4 5 1).bind fun v5 =>
  (tgO σ v1 0).bind fun _ =>
  (D_X0_layFirst v1 v3 v5 σ).bind fun r6 =>
  (gR r6 x0 7 9).bind fun v7 =>
  (tgO r6 v7 0).bind fun _ =>
  (D_X0_run v7 ((-1)) 0 r6).bind fun r8 =>
  (gR r8 x0 7 11).bind fun v9 =>
  (pB r8 v9 6 1 0).bind fun s10 =>
  some s10
set_option maxRecDepth 100000 in
set_option maxHeartbeats 4000000 in
theorem lk_X8_renew {G : mG} {x0 : Nat} {σ : mS} {R : mS} (hD : D_X8_renew x0 σ = some R) : Ev G M_X8_renew 0 [(0, vr x0)] [] σ (.inl none) R := by
  unfold D_X8_renew at hD
  refine ev_aload_n dX8_renew_0 0 rfl rfl ?_
  obtain ⟨v1, g, hD⟩ := bd hD
  refine ew_getR 7 9 dX8_renew_1 rfl (Nat.le_of_ble_eq_true rfl) w_599 in_X8 rfl g ?_
  refine ev_aload_n dX8_renew_4 0 rfl rfl ?_
  obtain ⟨v2, g, hD⟩ := bd hD
  refine ew_getR 7 1 dX8_renew_5 rfl (Nat.le_of_ble_eq_true rfl) w_591 in_X8 rfl g ?_
  obtain ⟨v3, g, hD⟩ := bd hD
  refine ew_getI 5 0 dX8_renew_8 rfl (Nat.le_of_ble_eq_true rfl) w_266 in_X5 rfl g ?_
  refine ev_aload_n dX8_renew_11 0 rfl rfl ?_
  obtain ⟨v4, g, hD⟩ := bd hD
  refine ew_getR 7 1 dX8_renew_12 rfl (Nat.le_of_ble_eq_true rfl) w_591 in_X8 rfl g ?_
  obtain ⟨v5, g, hD⟩ := bd hD
  refine ew_getI 5 1 dX8_renew_15 rfl (Nat.le_of_ble_eq_true rfl) w_269 in_X5 rfl g ?_
  obtain ⟨_, g0, hD⟩ := bd hD
  obtain ⟨r6, g, hD⟩ := bd hD
  refine ew_callV0 (as := [vi v3, vi v5]) (a := v1) (rest := []) dX8_renew_18 v_X0_layFirst w_489 rfl (Nat.le_of_ble_eq_true rfl) rfl rfl g0 (Nat.le_of_ble_eq_true rfl) (Nat.le_of_ble_eq_true rfl) (ct_X0_layFirst g) ?_
  refine ev_aload_n dX8_renew_21 0 rfl rfl ?_
  obtain ⟨v7, g, hD⟩ := bd hD
  refine ew_getR 7 9 dX8_renew_22 rfl (Nat.le_of_ble_eq_true rfl) w_599 in_X8 rfl g ?_
  refine ev_iconst dX8_renew_25 (mi_c rfl) ?_
  refine ev_iconst dX8_renew_26 (mi_c rfl) ?_
  obtain ⟨_, g0, hD⟩ := bd hD
  obtain ⟨r8, g, hD⟩ := bd hD
  refine ew_callV0 (as := [vi ((-1)), vi 0]) (a := v7) (rest := []) dX8_renew_27 v_X0_run w_515 rfl (Nat.le_of_ble_eq_true rfl) rfl rfl g0 (Nat.le_of_ble_eq_true rfl) (Nat.le_of_ble_eq_true rfl) (ct_X0_run g) ?_
  refine ev_aload_n dX8_renew_30 0 rfl rfl ?_
  obtain ⟨v9, g, hD⟩ := bd hD
  refine ew_getR 7 11 dX8_renew_31 rfl (Nat.le_of_ble_eq_true rfl) w_601 in_X8 rfl g ?_
  refine ev_iconst dX8_renew_34 (mi_c rfl) ?_
  obtain ⟨s10, g, hD⟩ := bd hD
  refine ew_putB 6 1 dX8_renew_35 rfl (Nat.le_of_ble_eq_true rfl) w_455 in_X6 tyX6_ok nmX6 (Or.inl rfl) rfl g ?_
  cases hD
  exact ev_ret none dX8_renew_38 True.intro
theorem ct_X8_renew {G : mG} {x0 : Nat} {σ : mS} {R : mS} (hD : D_X8_renew x0 σ = some R) : Ct G M_X8_renew [vr x0] σ (.inl none) R := ct_of rfl (by decide +kernel) rfl (Nat.le_of_ble_eq_true rfl) rfl (lk_X8_renew hD)
def D_X8_init_138 : Nat → Nat → Int → mS → Option mS
  | 0, _, _, _ => none
  | f + 1, x0, x1, σ =>
    if 12 ≤ x1 then
      some σ
    else
      (gR σ x0 7 2).bind fun v1 =>
      (nwO σ 5 11).bind fun s2 =>
      (tgN (32 + mN σ)).bind fun _ =>
      (D_X5_init (32 + mN σ) s2).bind fun r3 =>
      (sR r3 v1 x1 (32 + mN σ)).bind fun s4 =>
      (D_X8_init_138 f) x0 (mw (x1 + 1)) s4
set_option maxRecDepth 100000 in
set_option maxHeartbeats 4000000 in
theorem lk_X8_init_138 {G : mG} (f : Nat) : ∀ {x0 : Nat} {x1 : Int} {σ : mS} {R : mS}, D_X8_init_138 f x0 x1 σ = some R → ∀ {r : mX} {τ : mS}, Ev G M_X8_init 163 [(0, vr x0)] [] R r τ → Ev G M_X8_init 138 [(0, vr x0), (1, vi x1)] [] σ r τ := by
  induction f with
  | zero =>
    intros
    rename_i hD _ _ _
    cases hD
  | succ f ih =>
    intro x0 x1 σ R hD r τ hk
    have hrec := @ih
    rw [D_X8_init_138] at hD
    refine ev_iload_n dX8_init_138 1 rfl rfl ?_
    refine ev_bp dX8_init_139 rfl ?_
    by_cases c : 12 ≤ x1
    · rw [if_pos c] at hD
      refine ev_icmp_ge_t (tgt := 163) dX8_init_141 (by decide) c ?_
      cases hD
      refine Ev.pick [0] rfl ?_
      exact hk
    · rw [if_neg c] at hD
      refine ev_icmp_ge_f 163 dX8_init_141 (by decide) c ?_
      refine ev_aload_n dX8_init_144 0 rfl rfl ?_
      obtain ⟨v1, g, hD⟩ := bd hD
      refine ew_getR 7 2 dX8_init_145 rfl (Nat.le_of_ble_eq_true rfl) w_592 in_X8 rfl g ?_
      refine ev_iload_n dX8_init_148 1 rfl rfl ?_
      obtain ⟨s2, g, hD⟩ := bd hD
      refine ew_new 5 dX8_init_149 rfl in_X5 tyX5_ok dv_X5 w_157 w_158 w_125 g ?_
      refine ev_dup dX8_init_152 rfl ?_
      obtain ⟨_, g0, hD⟩ := bd hD
      obtain ⟨r3, g, hD⟩ := bd hD
      refine ew_callI (as := []) (a := (32 + mN σ)) (rest := [vr (32 + mN σ), vi x1, vr v1]) dX8_init_153 v_X5_init w_159 rfl (Nat.le_of_ble_eq_true rfl) g0 (Nat.le_of_ble_eq_true rfl) (Nat.le_of_ble_eq_true rfl) (ct_X5_init g) ?_
      obtain ⟨s4, g, hD⟩ := bd hD
      refine ew_aast dX8_init_156 g ?_
      refine ev_iinc dX8_init_157 1 rfl (Nat.le_of_ble_eq_true rfl) rfl ?_
      refine ev_goto (tgt := 138) dX8_init_160 (by decide) ?_
      refine Ev.pick [1, 0] rfl ?_
      exact hrec hD hk
def D_X8_init (x0 : Nat) (σ : mS) : Option mS :=
  (tgN x0).bind fun _ =>
  (nwA σ 0 1000).bind fun s1 =>
  (pR s1 x0 7 0 (32 + mN σ)).bind fun s2 =>
  (nwO s2 5 11).bind fun s3 =>
  (tgN (32 + mN s2)).bind fun _ =>
  (D_X5_init (32 + mN s2) s3).bind fun r4 =>
  (pR r4 x0 7 1 (32 + mN s2)).bind fun s5 =>
  (nwA s5 4 12).bind fun s6 =>
  (pR s6 x0 7 2 (32 + mN s5)).bind fun s7 =>
  (pI s7 x0 7 3 0).bind fun s8 =>
  (nwA s8 0 500).bind fun s9 =>
  (pR s9 x0 7 4 (32 + mN s8)).bind fun s10 =>
  (pI s10 x0 7 5 0).bind fun s11 =>
  (pI s11 x0 7 6 ((-1))).bind fun s12 =>
  (nwA s12 0 3).bind fun s13 =>
  (pR s13 x0 7 7 (32 + mN s12)).bind fun s14 =>
  (nwO s14 2 12).bind fun s15 =>
  (gR s15 x0 7 4).bind fun v16 =>
  (tgN (32 + mN s14)).bind fun _ =>
  (D_X2_init (32 + mN s14) v16 s15).bind fun r17 =>
  (pR r17 x0 7 8 (32 + mN s14)).bind fun s18 =>
  (nwO s18 0 15).bind fun s19 =>
  (gR s19 x0 7 1).bind fun v20 =>
  (gR s19 x0 7 0).bind fun v21 =>
  (tgN (32 + mN s18)).bind fun _ =>
  (D_X0_init (32 + mN s18) v20 v21 s19).bind fun r22 =>
  (pR r22 x0 7 9 (32 + mN s18)).bind fun s23 =>
  (nwO s23 0 15).bind fun s24 =>
  (gR s24 x0 7 1).bind fun v25 =>
  (gR s24 x0 7 0).bind fun v26 =>
  (tgN (32 + mN s23)).bind fun _ =>
  (D_X0_init (32 + mN s23) v25 v26 s24).bind fun r27 =>
  (pR r27 x0 7 10 (32 + mN s23)).bind fun s28 =>
  (nwO s28 6 8).bind fun s29 =>
  (gR s29 x0 7 1).bind fun v30 =>
  (gR s29 x0 7 9).bind fun v31 =>
  (tgN (32 + mN s28)).bind fun _ =>
  (D_X6_init (32 + mN s28) v30 v31 s29).bind fun r32 =>
  (pR r32 x0 7 11 (32 + mN s28)).bind fun s33 =>
  (D_X8_init_138 mFU x0 0 s33).bind fun r34 =>
  (gR r34 x0 7 1).bind fun v35 =>
  (pI r34 v35 5 2 2).bind fun s36 =>
  (gR s36 x0 7 1).bind fun v37 =>
  (gR s36 v37 5 6).bind fun v38 =>
  (sI s36 v38 0 0).bind fun s39 =>
  (gR s39 x0 7 1).bind fun v40 =>
  (gR s39 v40 5 7).bind fun v41 =>
  (sI s39 v41 0 1000).bind fun s42 =>
  (gR s42 x0 7 1).bind fun v43 =>
  (gR s42 v43 5 6).bind fun v44 =>
  (sI s42 v44 1 999).bind fun s45 =>
  (gR s45 x0 7 1).bind fun v46 =>
  (gR s45 v46 5 7).bind fun v47 =>
  (sI s45 v47 1 1).bind fun s48 =>
  (gR s48 x0 7 1).bind fun v49 =>
  (gR s48 x0 7 0).bind fun v50 =>
  (tgO s48 v49 5).bind fun _ =>
  (D_X5_layAges v49 v50 s48).bind fun r51 =>
  (tgO r51 x0 7).bind fun _ =>
  (D_X8_renew x0 r51).bind fun r52 =>
  some r52
set_option maxRecDepth 100000 in
set_option maxHeartbeats 4000000 in
theorem lk_X8_init {G : mG} {x0 : Nat} {σ : mS} {R : mS} (hD : D_X8_init x0 σ = some R) : Ev G M_X8_init 0 [(0, vr x0)] [] σ (.inl none) R := by
  unfold D_X8_init at hD
  refine ev_aload_n dX8_init_0 0 rfl rfl ?_
  obtain ⟨_, g, hD⟩ := bd hD
  refine ew_objInit dX8_init_1 w_154 w_objI w_objC (Nat.le_of_ble_eq_true rfl) (Nat.le_of_ble_eq_true rfl) (Nat.le_of_ble_eq_true rfl) g ?_
  refine ev_aload_n dX8_init_4 0 rfl rfl ?_
  refine ev_sp dX8_init_5 rfl ?_
  obtain ⟨s1, g, hD⟩ := bd hD
  refine ew_newa 0 dX8_init_8 rfl rfl (by decide +kernel) (by decide +kernel) w_203 g ?_
  obtain ⟨s2, g, hD⟩ := bd hD
  refine ew_putR 7 0 dX8_init_10 rfl (Nat.le_of_ble_eq_true rfl) w_590 in_X8 tyX8_ok nmX8 (Or.inr ⟨rfl, rfl⟩) rfl g ?_
  refine ev_aload_n dX8_init_13 0 rfl rfl ?_
  obtain ⟨s3, g, hD⟩ := bd hD
  refine ew_new 5 dX8_init_14 rfl in_X5 tyX5_ok dv_X5 w_157 w_158 w_125 g ?_
  refine ev_dup dX8_init_17 rfl ?_
  obtain ⟨_, g0, hD⟩ := bd hD
  obtain ⟨r4, g, hD⟩ := bd hD
  refine ew_callI (as := []) (a := (32 + mN s2)) (rest := [vr (32 + mN s2), vr x0]) dX8_init_18 v_X5_init w_159 rfl (Nat.le_of_ble_eq_true rfl) g0 (Nat.le_of_ble_eq_true rfl) (Nat.le_of_ble_eq_true rfl) (ct_X5_init g) ?_
  obtain ⟨s5, g, hD⟩ := bd hD
  refine ew_putR 7 1 dX8_init_21 rfl (Nat.le_of_ble_eq_true rfl) w_591 in_X8 tyX8_ok nmX8 (Or.inr ⟨rfl, rfl⟩) rfl g ?_
  refine ev_aload_n dX8_init_24 0 rfl rfl ?_
  refine ev_bp dX8_init_25 rfl ?_
  obtain ⟨s6, g, hD⟩ := bd hD
  refine ew_anew 4 dX8_init_27 rfl w_157 w_t330 g ?_
  obtain ⟨s7, g, hD⟩ := bd hD
  refine ew_putR 7 2 dX8_init_30 rfl (Nat.le_of_ble_eq_true rfl) w_592 in_X8 tyX8_ok nmX8 (Or.inr ⟨rfl, rfl⟩) rfl g ?_
  refine ev_aload_n dX8_init_33 0 rfl rfl ?_
  refine ev_iconst dX8_init_34 (mi_c rfl) ?_
  obtain ⟨s8, g, hD⟩ := bd hD
  refine ew_putI 7 3 dX8_init_35 rfl (Nat.le_of_ble_eq_true rfl) w_593 in_X8 tyX8_ok nmX8 (Or.inl rfl) rfl g ?_
  refine ev_aload_n dX8_init_38 0 rfl rfl ?_
  refine ev_sp dX8_init_39 rfl ?_
  obtain ⟨s9, g, hD⟩ := bd hD
  refine ew_newa 0 dX8_init_42 rfl rfl (by decide +kernel) (by decide +kernel) w_203 g ?_
  obtain ⟨s10, g, hD⟩ := bd hD
  refine ew_putR 7 4 dX8_init_44 rfl (Nat.le_of_ble_eq_true rfl) w_594 in_X8 tyX8_ok nmX8 (Or.inr ⟨rfl, rfl⟩) rfl g ?_
  refine ev_aload_n dX8_init_47 0 rfl rfl ?_
  refine ev_iconst dX8_init_48 (mi_c rfl) ?_
  obtain ⟨s11, g, hD⟩ := bd hD
  refine ew_putI 7 5 dX8_init_49 rfl (Nat.le_of_ble_eq_true rfl) w_595 in_X8 tyX8_ok nmX8 (Or.inl rfl) rfl g ?_
  refine ev_aload_n dX8_init_52 0 rfl rfl ?_
  refine ev_iconst dX8_init_53 (mi_c rfl) ?_
  obtain ⟨s12, g, hD⟩ := bd hD
  refine ew_putI 7 6 dX8_init_54 rfl (Nat.le_of_ble_eq_true rfl) w_596 in_X8 tyX8_ok nmX8 (Or.inl rfl) rfl g ?_
  refine ev_aload_n dX8_init_57 0 rfl rfl ?_
  refine ev_iconst dX8_init_58 (mi_c rfl) ?_
  obtain ⟨s13, g, hD⟩ := bd hD
  refine ew_newa 0 dX8_init_59 rfl rfl (by decide +kernel) (by decide +kernel) w_203 g ?_
  obtain ⟨s14, g, hD⟩ := bd hD
  refine ew_putR 7 7 dX8_init_61 rfl (Nat.le_of_ble_eq_true rfl) w_597 in_X8 tyX8_ok nmX8 (Or.inr ⟨rfl, rfl⟩) rfl g ?_
  refine ev_aload_n dX8_init_64 0 rfl rfl ?_
  obtain ⟨s15, g, hD⟩ := bd hD
  refine ew_new 2 dX8_init_65 rfl in_X2 tyX2_ok dv_X2 w_331 w_332 w_129 g ?_
  refine ev_dup dX8_init_68 rfl ?_
  refine ev_aload_n dX8_init_69 0 rfl rfl ?_
  obtain ⟨v16, g, hD⟩ := bd hD
  refine ew_getR 7 4 dX8_init_70 rfl (Nat.le_of_ble_eq_true rfl) w_594 in_X8 rfl g ?_
  obtain ⟨_, g0, hD⟩ := bd hD
  obtain ⟨r17, g, hD⟩ := bd hD
  refine ew_callI (as := [vr v16]) (a := (32 + mN s14)) (rest := [vr (32 + mN s14), vr x0]) dX8_init_73 v_X2_init w_333 rfl (Nat.le_of_ble_eq_true rfl) g0 (Nat.le_of_ble_eq_true rfl) (Nat.le_of_ble_eq_true rfl) (ct_X2_init g) ?_
  obtain ⟨s18, g, hD⟩ := bd hD
  refine ew_putR 7 8 dX8_init_76 rfl (Nat.le_of_ble_eq_true rfl) w_598 in_X8 tyX8_ok nmX8 (Or.inr ⟨rfl, rfl⟩) rfl g ?_
  refine ev_aload_n dX8_init_79 0 rfl rfl ?_
  obtain ⟨s19, g, hD⟩ := bd hD
  refine ew_new 0 dX8_init_80 rfl in_X0 tyX0_ok dv_X0 w_379 w_380 w_130 g ?_
  refine ev_dup dX8_init_83 rfl ?_
  refine ev_aload_n dX8_init_84 0 rfl rfl ?_
  obtain ⟨v20, g, hD⟩ := bd hD
  refine ew_getR 7 1 dX8_init_85 rfl (Nat.le_of_ble_eq_true rfl) w_591 in_X8 rfl g ?_
  refine ev_aload_n dX8_init_88 0 rfl rfl ?_
  obtain ⟨v21, g, hD⟩ := bd hD
  refine ew_getR 7 0 dX8_init_89 rfl (Nat.le_of_ble_eq_true rfl) w_590 in_X8 rfl g ?_
  obtain ⟨_, g0, hD⟩ := bd hD
  obtain ⟨r22, g, hD⟩ := bd hD
  refine ew_callI (as := [vr v20, vr v21]) (a := (32 + mN s18)) (rest := [vr (32 + mN s18), vr x0]) dX8_init_92 v_X0_init w_381 rfl (Nat.le_of_ble_eq_true rfl) g0 (Nat.le_of_ble_eq_true rfl) (Nat.le_of_ble_eq_true rfl) (ct_X0_init g) ?_
  obtain ⟨s23, g, hD⟩ := bd hD
  refine ew_putR 7 9 dX8_init_95 rfl (Nat.le_of_ble_eq_true rfl) w_599 in_X8 tyX8_ok nmX8 (Or.inr ⟨rfl, rfl⟩) rfl g ?_
  refine ev_aload_n dX8_init_98 0 rfl rfl ?_
  obtain ⟨s24, g, hD⟩ := bd hD
  refine ew_new 0 dX8_init_99 rfl in_X0 tyX0_ok dv_X0 w_379 w_380 w_130 g ?_
  refine ev_dup dX8_init_102 rfl ?_
  refine ev_aload_n dX8_init_103 0 rfl rfl ?_
  obtain ⟨v25, g, hD⟩ := bd hD
  refine ew_getR 7 1 dX8_init_104 rfl (Nat.le_of_ble_eq_true rfl) w_591 in_X8 rfl g ?_
  refine ev_aload_n dX8_init_107 0 rfl rfl ?_
  obtain ⟨v26, g, hD⟩ := bd hD
  refine ew_getR 7 0 dX8_init_108 rfl (Nat.le_of_ble_eq_true rfl) w_590 in_X8 rfl g ?_
  obtain ⟨_, g0, hD⟩ := bd hD
  obtain ⟨r27, g, hD⟩ := bd hD
  refine ew_callI (as := [vr v25, vr v26]) (a := (32 + mN s23)) (rest := [vr (32 + mN s23), vr x0]) dX8_init_111 v_X0_init w_381 rfl (Nat.le_of_ble_eq_true rfl) g0 (Nat.le_of_ble_eq_true rfl) (Nat.le_of_ble_eq_true rfl) (ct_X0_init g) ?_
  obtain ⟨s28, g, hD⟩ := bd hD
  refine ew_putR 7 10 dX8_init_114 rfl (Nat.le_of_ble_eq_true rfl) w_600 in_X8 tyX8_ok nmX8 (Or.inr ⟨rfl, rfl⟩) rfl g ?_
  refine ev_aload_n dX8_init_117 0 rfl rfl ?_
  obtain ⟨s29, g, hD⟩ := bd hD
  refine ew_new 6 dX8_init_118 rfl in_X6 tyX6_ok dv_X6 w_444 w_445 w_131 g ?_
  refine ev_dup dX8_init_121 rfl ?_
  refine ev_aload_n dX8_init_122 0 rfl rfl ?_
  obtain ⟨v30, g, hD⟩ := bd hD
  refine ew_getR 7 1 dX8_init_123 rfl (Nat.le_of_ble_eq_true rfl) w_591 in_X8 rfl g ?_
  refine ev_aload_n dX8_init_126 0 rfl rfl ?_
  obtain ⟨v31, g, hD⟩ := bd hD
  refine ew_getR 7 9 dX8_init_127 rfl (Nat.le_of_ble_eq_true rfl) w_599 in_X8 rfl g ?_
  obtain ⟨_, g0, hD⟩ := bd hD
  obtain ⟨r32, g, hD⟩ := bd hD
  refine ew_callI (as := [vr v30, vr v31]) (a := (32 + mN s28)) (rest := [vr (32 + mN s28), vr x0]) dX8_init_130 v_X6_init w_446 rfl (Nat.le_of_ble_eq_true rfl) g0 (Nat.le_of_ble_eq_true rfl) (Nat.le_of_ble_eq_true rfl) (ct_X6_init g) ?_
  obtain ⟨s33, g, hD⟩ := bd hD
  refine ew_putR 7 11 dX8_init_133 rfl (Nat.le_of_ble_eq_true rfl) w_601 in_X8 tyX8_ok nmX8 (Or.inr ⟨rfl, rfl⟩) rfl g ?_
  refine ev_iconst dX8_init_136 (mi_c rfl) ?_
  refine ev_istore_n dX8_init_137 rfl (Nat.le_of_ble_eq_true rfl) rfl ?_
  obtain ⟨r34, g, hD⟩ := bd hD
  refine Ev.pick [1, 0] rfl ?_
  refine lk_X8_init_138 mFU g ?_
  refine ev_aload_n dX8_init_163 0 rfl rfl ?_
  obtain ⟨v35, g, hD⟩ := bd hD
  refine ew_getR 7 1 dX8_init_164 rfl (Nat.le_of_ble_eq_true rfl) w_591 in_X8 rfl g ?_
  refine ev_iconst dX8_init_167 (mi_c rfl) ?_
  obtain ⟨s36, g, hD⟩ := bd hD
  refine ew_putI 5 2 dX8_init_168 rfl (Nat.le_of_ble_eq_true rfl) w_273 in_X5 tyX5_ok nmX5 (Or.inl rfl) rfl g ?_
  refine ev_aload_n dX8_init_171 0 rfl rfl ?_
  obtain ⟨v37, g, hD⟩ := bd hD
  refine ew_getR 7 1 dX8_init_172 rfl (Nat.le_of_ble_eq_true rfl) w_591 in_X8 rfl g ?_
  obtain ⟨v38, g, hD⟩ := bd hD
  refine ew_getR 5 6 dX8_init_175 rfl (Nat.le_of_ble_eq_true rfl) w_289 in_X5 rfl g ?_
  refine ev_iconst dX8_init_178 (mi_c rfl) ?_
  refine ev_iconst dX8_init_179 (mi_c rfl) ?_
  obtain ⟨s39, g, hD⟩ := bd hD
  refine ew_iast dX8_init_180 g ?_
  refine ev_aload_n dX8_init_181 0 rfl rfl ?_
  obtain ⟨v40, g, hD⟩ := bd hD
  refine ew_getR 7 1 dX8_init_182 rfl (Nat.le_of_ble_eq_true rfl) w_591 in_X8 rfl g ?_
  obtain ⟨v41, g, hD⟩ := bd hD
  refine ew_getR 5 7 dX8_init_185 rfl (Nat.le_of_ble_eq_true rfl) w_292 in_X5 rfl g ?_
  refine ev_iconst dX8_init_188 (mi_c rfl) ?_
  refine ev_sp dX8_init_189 rfl ?_
  obtain ⟨s42, g, hD⟩ := bd hD
  refine ew_iast dX8_init_192 g ?_
  refine ev_aload_n dX8_init_193 0 rfl rfl ?_
  obtain ⟨v43, g, hD⟩ := bd hD
  refine ew_getR 7 1 dX8_init_194 rfl (Nat.le_of_ble_eq_true rfl) w_591 in_X8 rfl g ?_
  obtain ⟨v44, g, hD⟩ := bd hD
  refine ew_getR 5 6 dX8_init_197 rfl (Nat.le_of_ble_eq_true rfl) w_289 in_X5 rfl g ?_
  refine ev_iconst dX8_init_200 (mi_c rfl) ?_
  refine ev_sp dX8_init_201 rfl ?_
  obtain ⟨s45, g, hD⟩ := bd hD
  refine ew_iast dX8_init_204 g ?_
  refine ev_aload_n dX8_init_205 0 rfl rfl ?_
  obtain ⟨v46, g, hD⟩ := bd hD
  refine ew_getR 7 1 dX8_init_206 rfl (Nat.le_of_ble_eq_true rfl) w_591 in_X8 rfl g ?_
  obtain ⟨v47, g, hD⟩ := bd hD
  refine ew_getR 5 7 dX8_init_209 rfl (Nat.le_of_ble_eq_true rfl) w_292 in_X5 rfl g ?_
  refine ev_iconst dX8_init_212 (mi_c rfl) ?_
  refine ev_iconst dX8_init_213 (mi_c rfl) ?_
  obtain ⟨s48, g, hD⟩ := bd hD
  refine ew_iast dX8_init_214 g ?_
  refine ev_aload_n dX8_init_215 0 rfl rfl ?_
  obtain ⟨v49, g, hD⟩ := bd hD
  refine ew_getR 7 1 dX8_init_216 rfl (Nat.le_of_ble_eq_true rfl) w_591 in_X8 rfl g ?_
  refine ev_aload_n dX8_init_219 0 rfl rfl ?_
  obtain ⟨v50, g, hD⟩ := bd hD
  refine ew_getR 7 0 dX8_init_220 rfl (Nat.le_of_ble_eq_true rfl) w_590 in_X8 rfl g ?_
  obtain ⟨_, g0, hD⟩ := bd hD
  obtain ⟨r51, g, hD⟩ := bd hD
  refine ew_callV0 (as := [vr v50]) (a := v49) (rest := []) dX8_init_223 v_X5_layAges w_481 rfl (Nat.le_of_ble_eq_true rfl) rfl rfl g0 (Nat.le_of_ble_eq_true rfl) (Nat.le_of_ble_eq_true rfl) (ct_X5_layAges g) ?_
  refine ev_aload_n dX8_init_226 0 rfl rfl ?_
  obtain ⟨_, g0, hD⟩ := bd hD
  obtain ⟨r52, g, hD⟩ := bd hD
  refine ew_callV0 (as := []) (a := x0) (rest := []) dX8_init_227 v_X8_renew w_485 rfl (Nat.le_of_ble_eq_true rfl) rfl rfl g0 (Nat.le_of_ble_eq_true rfl) (Nat.le_of_ble_eq_true rfl) (ct_X8_renew g) ?_
  cases hD
  exact ev_ret none dX8_init_230 True.intro
theorem ct_X8_init {G : mG} {x0 : Nat} {σ : mS} {R : mS} (hD : D_X8_init x0 σ = some R) : Ct G M_X8_init [vr x0] σ (.inl none) R := ct_of rfl (by decide +kernel) rfl (Nat.le_of_ble_eq_true rfl) rfl (lk_X8_init hD)
def D_X8_feedNumber_3 : Nat → Nat → Int → Int → mS → Option mS
  | 0, _, _, _, _ => none
  | f + 1, x0, x1, x2, σ =>
    if x2 < 0 then
      some σ
    else
      (gR σ x0 7 4).bind fun v1 =>
      (gI σ x0 7 5).bind fun v2 =>
      (sI σ v1 v2 (mand (mushr x1 x2) 255)).bind fun s3 =>
      (gI s3 x0 7 5).bind fun v4 =>
      (pI s3 x0 7 5 (mw (v4 + 1))).bind fun s5 =>
      (D_X8_feedNumber_3 f) x0 x1 (mw (x2 + (-8))) s5
set_option maxRecDepth 100000 in
set_option maxHeartbeats 4000000 in
theorem lk_X8_feedNumber_3 {G : mG} (f : Nat) : ∀ {x0 : Nat} {x1 : Int} {x2 : Int} {σ : mS} {R : mS}, D_X8_feedNumber_3 f x0 x1 x2 σ = some R → ∀ {r : mX} {τ : mS}, Ev G M_X8_feedNumber 39 [] [] R r τ → Ev G M_X8_feedNumber 3 [(0, vr x0), (1, vi x1), (2, vi x2)] [] σ r τ := by
  induction f with
  | zero =>
    intros
    rename_i hD _ _ _
    cases hD
  | succ f ih =>
    intro x0 x1 x2 σ R hD r τ hk
    have hrec := @ih
    rw [D_X8_feedNumber_3] at hD
    refine ev_iload_n dX8_feedNumber_3 2 rfl rfl ?_
    by_cases c : x2 < 0
    · rw [if_pos c] at hD
      refine ev_if_lt_t (tgt := 39) dX8_feedNumber_4 (by decide) c ?_
      cases hD
      refine Ev.pick [] rfl ?_
      exact hk
    · rw [if_neg c] at hD
      refine ev_if_lt_f 39 dX8_feedNumber_4 (by decide) c ?_
      refine ev_aload_n dX8_feedNumber_7 0 rfl rfl ?_
      obtain ⟨v1, g, hD⟩ := bd hD
      refine ew_getR 7 4 dX8_feedNumber_8 rfl (Nat.le_of_ble_eq_true rfl) w_594 in_X8 rfl g ?_
      refine ev_aload_n dX8_feedNumber_11 0 rfl rfl ?_
      obtain ⟨v2, g, hD⟩ := bd hD
      refine ew_getI 7 5 dX8_feedNumber_12 rfl (Nat.le_of_ble_eq_true rfl) w_595 in_X8 rfl g ?_
      refine ev_iload_n dX8_feedNumber_15 1 rfl rfl ?_
      refine ev_iload_n dX8_feedNumber_16 2 rfl rfl ?_
      refine ev_iushr dX8_feedNumber_17 ?_
      refine ev_sp dX8_feedNumber_18 rfl ?_
      refine ev_iand dX8_feedNumber_21 ?_
      obtain ⟨s3, g, hD⟩ := bd hD
      refine ew_iast dX8_feedNumber_22 g ?_
      refine ev_aload_n dX8_feedNumber_23 0 rfl rfl ?_
      refine ev_dup dX8_feedNumber_24 rfl ?_
      obtain ⟨v4, g, hD⟩ := bd hD
      refine ew_getI 7 5 dX8_feedNumber_25 rfl (Nat.le_of_ble_eq_true rfl) w_595 in_X8 rfl g ?_
      refine ev_iconst dX8_feedNumber_28 (mi_c rfl) ?_
      refine ev_iadd dX8_feedNumber_29 ?_
      obtain ⟨s5, g, hD⟩ := bd hD
      refine ew_putI 7 5 dX8_feedNumber_30 rfl (Nat.le_of_ble_eq_true rfl) w_595 in_X8 tyX8_ok nmX8 (Or.inl rfl) rfl g ?_
      refine ev_iinc dX8_feedNumber_33 2 rfl (Nat.le_of_ble_eq_true rfl) rfl ?_
      refine ev_goto (tgt := 3) dX8_feedNumber_36 (by decide) ?_
      refine Ev.pick [1, 2, 0] rfl ?_
      exact hrec hD hk
def D_X8_feedNumber (x0 : Nat) (x1 : Int) (σ : mS) : Option mS :=
  (D_X8_feedNumber_3 mFU x0 x1 24 σ).bind fun r1 =>
  some r1
set_option maxRecDepth 100000 in
set_option maxHeartbeats 4000000 in
theorem lk_X8_feedNumber {G : mG} {x0 : Nat} {x1 : Int} {σ : mS} {R : mS} (hD : D_X8_feedNumber x0 x1 σ = some R) : Ev G M_X8_feedNumber 0 [(0, vr x0), (1, vi x1)] [] σ (.inl none) R := by
  unfold D_X8_feedNumber at hD
  refine ev_bp dX8_feedNumber_0 rfl ?_
  refine ev_istore_n dX8_feedNumber_2 rfl (Nat.le_of_ble_eq_true rfl) rfl ?_
  obtain ⟨r1, g, hD⟩ := bd hD
  refine Ev.pick [1, 2, 0] rfl ?_
  refine lk_X8_feedNumber_3 mFU g ?_
  cases hD
  exact ev_ret none dX8_feedNumber_39 True.intro
theorem ct_X8_feedNumber {G : mG} {x0 : Nat} {x1 : Int} {σ : mS} {R : mS} (hD : D_X8_feedNumber x0 x1 σ = some R) : Ct G M_X8_feedNumber [vr x0, vi x1] σ (.inl none) R := ct_of rfl (by decide +kernel) rfl (Nat.le_of_ble_eq_true rfl) rfl (lk_X8_feedNumber hD)
def D_X8_feed (x0 : Nat) (x1 : Int) (x2 : Int) (x3 : Int) (x4 : Int) (x5 : Int) (σ : mS) : Option (Int × mS) :=
  (gI σ x0 7 5).bind fun v1 =>
  if (mw (v1 + 20)) ≤ 500 then
    (tgO σ x0 7).bind fun _ =>
    (D_X8_feedNumber x0 x1 σ).bind fun r2 =>
    (tgO r2 x0 7).bind fun _ =>
    (D_X8_feedNumber x0 x2 r2).bind fun r3 =>
    (tgO r3 x0 7).bind fun _ =>
    (D_X8_feedNumber x0 x3 r3).bind fun r4 =>
    (tgO r4 x0 7).bind fun _ =>
    (D_X8_feedNumber x0 x4 r4).bind fun r5 =>
    (tgO r5 x0 7).bind fun _ =>
    (D_X8_feedNumber x0 x5 r5).bind fun r6 =>
    (gI r6 x0 7 5).bind fun v7 =>
    some (v7, r6)
  else
    some (((-1)), σ)
set_option maxRecDepth 100000 in
set_option maxHeartbeats 4000000 in
theorem lk_X8_feed {G : mG} {x0 : Nat} {x1 : Int} {x2 : Int} {x3 : Int} {x4 : Int} {x5 : Int} {σ : mS} {R : (Int × mS)} (hD : D_X8_feed x0 x1 x2 x3 x4 x5 σ = some R) : Ev G M_X8_feed 0 [(0, vr x0), (1, vi x1), (2, vi x2), (3, vi x3), (4, vi x4), (5, vi x5)] [] σ (.inl (some (vi R.1))) R.2 := by
  unfold D_X8_feed at hD
  refine ev_aload_n dX8_feed_0 0 rfl rfl ?_
  obtain ⟨v1, g, hD⟩ := bd hD
  refine ew_getI 7 5 dX8_feed_1 rfl (Nat.le_of_ble_eq_true rfl) w_595 in_X8 rfl g ?_
  refine ev_bp dX8_feed_4 rfl ?_
  refine ev_iadd dX8_feed_6 ?_
  refine ev_sp dX8_feed_7 rfl ?_
  by_cases c : (mw (v1 + 20)) ≤ 500
  · rw [if_pos c] at hD
    refine ev_icmp_le_t (tgt := 15) dX8_feed_10 (by decide) c ?_
    refine ev_aload_n dX8_feed_15 0 rfl rfl ?_
    refine ev_iload_n dX8_feed_16 1 rfl rfl ?_
    obtain ⟨_, g0, hD⟩ := bd hD
    obtain ⟨r2, g, hD⟩ := bd hD
    refine ew_callV0 (as := [vi x1]) (a := x0) (rest := []) dX8_feed_17 v_X8_feedNumber w_631 rfl (Nat.le_of_ble_eq_true rfl) rfl rfl g0 (Nat.le_of_ble_eq_true rfl) (Nat.le_of_ble_eq_true rfl) (ct_X8_feedNumber g) ?_
    refine ev_aload_n dX8_feed_20 0 rfl rfl ?_
    refine ev_iload_n dX8_feed_21 2 rfl rfl ?_
    obtain ⟨_, g0, hD⟩ := bd hD
    obtain ⟨r3, g, hD⟩ := bd hD
    refine ew_callV0 (as := [vi x2]) (a := x0) (rest := []) dX8_feed_22 v_X8_feedNumber w_631 rfl (Nat.le_of_ble_eq_true rfl) rfl rfl g0 (Nat.le_of_ble_eq_true rfl) (Nat.le_of_ble_eq_true rfl) (ct_X8_feedNumber g) ?_
    refine ev_aload_n dX8_feed_25 0 rfl rfl ?_
    refine ev_iload_n dX8_feed_26 3 rfl rfl ?_
    obtain ⟨_, g0, hD⟩ := bd hD
    obtain ⟨r4, g, hD⟩ := bd hD
    refine ew_callV0 (as := [vi x3]) (a := x0) (rest := []) dX8_feed_27 v_X8_feedNumber w_631 rfl (Nat.le_of_ble_eq_true rfl) rfl rfl g0 (Nat.le_of_ble_eq_true rfl) (Nat.le_of_ble_eq_true rfl) (ct_X8_feedNumber g) ?_
    refine ev_aload_n dX8_feed_30 0 rfl rfl ?_
    refine ev_iload dX8_feed_31 4 rfl ?_
    obtain ⟨_, g0, hD⟩ := bd hD
    obtain ⟨r5, g, hD⟩ := bd hD
    refine ew_callV0 (as := [vi x4]) (a := x0) (rest := []) dX8_feed_33 v_X8_feedNumber w_631 rfl (Nat.le_of_ble_eq_true rfl) rfl rfl g0 (Nat.le_of_ble_eq_true rfl) (Nat.le_of_ble_eq_true rfl) (ct_X8_feedNumber g) ?_
    refine ev_aload_n dX8_feed_36 0 rfl rfl ?_
    refine ev_iload dX8_feed_37 5 rfl ?_
    obtain ⟨_, g0, hD⟩ := bd hD
    obtain ⟨r6, g, hD⟩ := bd hD
    refine ew_callV0 (as := [vi x5]) (a := x0) (rest := []) dX8_feed_39 v_X8_feedNumber w_631 rfl (Nat.le_of_ble_eq_true rfl) rfl rfl g0 (Nat.le_of_ble_eq_true rfl) (Nat.le_of_ble_eq_true rfl) (ct_X8_feedNumber g) ?_
    refine ev_aload_n dX8_feed_42 0 rfl rfl ?_
    obtain ⟨v7, g, hD⟩ := bd hD
    refine ew_getI 7 5 dX8_feed_43 rfl (Nat.le_of_ble_eq_true rfl) w_595 in_X8 rfl g ?_
    cases hD
    exact ev_ret (some (vi _)) dX8_feed_46 True.intro
  · rw [if_neg c] at hD
    refine ev_icmp_le_f 15 dX8_feed_10 (by decide) c ?_
    refine ev_iconst dX8_feed_13 (mi_c rfl) ?_
    cases hD
    exact ev_ret (some (vi _)) dX8_feed_14 True.intro
theorem ct_X8_feed {G : mG} {x0 : Nat} {x1 : Int} {x2 : Int} {x3 : Int} {x4 : Int} {x5 : Int} {σ : mS} {R : (Int × mS)} (hD : D_X8_feed x0 x1 x2 x3 x4 x5 σ = some R) : Ct G M_X8_feed [vr x0, vi x1, vi x2, vi x3, vi x4, vi x5] σ (.inl (some (vi R.1))) R.2 := ct_of rfl (by decide +kernel) rfl (Nat.le_of_ble_eq_true rfl) rfl (lk_X8_feed hD)
def D_X8_needArgument (x0 : Nat) (x1 : Int) (σ : mS) : Option ((Unit ⊕ Nat) × mS) :=
  if x1 ≠ 0 then
    some (Sum.inl (), σ)
  else
    (gR σ x0 7 7).bind fun v1 =>
    (lI σ v1 1).bind fun v2 =>
    (sI σ v1 1 (mw (v2 + 1))).bind fun s3 =>
    some (Sum.inr 1, mExc s3)
set_option maxRecDepth 100000 in
set_option maxHeartbeats 4000000 in
theorem lk_X8_needArgument {G : mG} {x0 : Nat} {x1 : Int} {σ : mS} {R : ((Unit ⊕ Nat) × mS)} (hD : D_X8_needArgument x0 x1 σ = some R) : Ev G M_X8_needArgument 0 [(0, vr x0), (1, vi x1)] [] σ (mRsU R.1) R.2 := by
  unfold D_X8_needArgument at hD
  refine ev_iload_n dX8_needArgument_0 1 rfl rfl ?_
  by_cases c : x1 ≠ 0
  · rw [if_pos c] at hD
    refine ev_if_ne_t (tgt := 22) dX8_needArgument_1 (by decide) c ?_
    cases hD
    exact ev_ret none dX8_needArgument_22 True.intro
  · rw [if_neg c] at hD
    refine ev_if_ne_f 22 dX8_needArgument_1 (by decide) c ?_
    refine ev_aload_n dX8_needArgument_4 0 rfl rfl ?_
    obtain ⟨v1, g, hD⟩ := bd hD
    refine ew_getR 7 7 dX8_needArgument_5 rfl (Nat.le_of_ble_eq_true rfl) w_597 in_X8 rfl g ?_
    refine ev_iconst dX8_needArgument_8 (mi_c rfl) ?_
    refine ev_dup2 dX8_needArgument_9 rfl rfl ?_
    obtain ⟨v2, g, hD⟩ := bd hD
    refine ew_iald dX8_needArgument_10 g ?_
    refine ev_iconst dX8_needArgument_11 (mi_c rfl) ?_
    refine ev_iadd dX8_needArgument_12 ?_
    obtain ⟨s3, g, hD⟩ := bd hD
    refine ew_iast dX8_needArgument_13 g ?_
    cases hD
    exact ev_throw 1 dX8_needArgument_14 dX8_needArgument_17 dX8_needArgument_18 dX8_needArgument_21 rfl (by decide +kernel) w_718 w_142 (by decide +kernel) (Nat.le_of_ble_eq_true rfl) (Nat.le_of_ble_eq_true rfl) (Nat.le_of_ble_eq_true rfl)
theorem ct_X8_needArgument {G : mG} {x0 : Nat} {x1 : Int} {σ : mS} {R : ((Unit ⊕ Nat) × mS)} (hD : D_X8_needArgument x0 x1 σ = some R) : Ct G M_X8_needArgument [vr x0, vi x1] σ (mRsU R.1) R.2 := ct_of rfl (by decide +kernel) rfl (Nat.le_of_ble_eq_true rfl) rfl (lk_X8_needArgument hD)
def D_X8_text_18 (x0 : Nat) (x1 : Int) (y0 : Int) (y1 : Nat) (σ : mS) : Option ((Int ⊕ Nat) × mS) :=
  (tgO σ y1 7).bind fun _ =>
  (D_X8_needArgument y1 y0 σ).bind fun r1 =>
  match r1 with
  | (Sum.inl _, s4) =>
    (gR s4 x0 7 8).bind fun v5 =>
    (tgO s4 v5 2).bind fun _ =>
    (D_X2_read v5 x1 s4).bind fun r6 =>
    (pI r6 x0 7 5 0).bind fun s7 =>
    (gR s7 x0 7 8).bind fun v8 =>
    (gI s7 v8 2 1).bind fun v9 =>
    if v9 = 0 then
      (pI s7 x0 7 6 ((-1))).bind fun s10 =>
      (gR s10 x0 7 1).bind fun v11 =>
      (gR s10 x0 7 8).bind fun v12 =>
      (gR s10 v12 2 0).bind fun v13 =>
      (tgO s10 v11 5).bind fun _ =>
      (D_X5_copyFrom v11 v13 s10).bind fun r14 =>
      (gR r14 x0 7 1).bind fun v15 =>
      (gR r14 x0 7 0).bind fun v16 =>
      (tgO r14 v15 5).bind fun _ =>
      (D_X5_layAges v15 v16 r14).bind fun r17 =>
      (pI r17 x0 7 3 0).bind fun s18 =>
      (tgO s18 x0 7).bind fun _ =>
      (D_X8_renew x0 s18).bind fun r19 =>
      (gR r19 x0 7 1).bind fun v20 =>
      (gI r19 v20 5 3).bind fun v21 =>
      some (Sum.inl v21, r19)
    else
      (gR s7 x0 7 8).bind fun v22 =>
      (gI s7 v22 2 2).bind fun v23 =>
      (pI s7 x0 7 6 v23).bind fun s24 =>
      (gR s24 x0 7 8).bind fun v25 =>
      (gI s24 v25 2 1).bind fun v26 =>
      some (Sum.inl (mw (v26 - 10)), s24)
  | (Sum.inr e3, s4) => some (Sum.inr e3, s4)
set_option maxRecDepth 100000 in
set_option maxHeartbeats 4000000 in
theorem lk_X8_text_18 {G : mG} {x0 : Nat} {x1 : Int} {y0 : Int} {y1 : Nat} {σ : mS} {R : ((Int ⊕ Nat) × mS)} (hD : D_X8_text_18 x0 x1 y0 y1 σ = some R) : Ev G M_X8_text 18 [(0, vr x0), (1, vi x1)] [vi y0, vr y1] σ (mRsI R.1) R.2 := by
  unfold D_X8_text_18 at hD
  obtain ⟨_, g0, hD⟩ := bd hD
  obtain ⟨r1, g, hD⟩ := bd hD
  obtain ⟨v2 | e3, s4⟩ := r1
  · refine ew_callV0 (as := [vi y0]) (a := y1) (rest := []) dX8_text_18 v_X8_needArgument w_714 rfl (Nat.le_of_ble_eq_true rfl) rfl rfl g0 (Nat.le_of_ble_eq_true rfl) (Nat.le_of_ble_eq_true rfl) (ct_X8_needArgument g) ?_
    dsimp only at hD
    refine ev_aload_n dX8_text_21 0 rfl rfl ?_
    obtain ⟨v5, g, hD⟩ := bd hD
    refine ew_getR 7 8 dX8_text_22 rfl (Nat.le_of_ble_eq_true rfl) w_598 in_X8 rfl g ?_
    refine ev_iload_n dX8_text_25 1 rfl rfl ?_
    obtain ⟨_, g0, hD⟩ := bd hD
    obtain ⟨r6, g, hD⟩ := bd hD
    refine ew_callV0 (as := [vi x1]) (a := v5) (rest := []) dX8_text_26 v_X2_read w_781 rfl (Nat.le_of_ble_eq_true rfl) rfl rfl g0 (Nat.le_of_ble_eq_true rfl) (Nat.le_of_ble_eq_true rfl) (ct_X2_read g) ?_
    refine ev_aload_n dX8_text_29 0 rfl rfl ?_
    refine ev_iconst dX8_text_30 (mi_c rfl) ?_
    obtain ⟨s7, g, hD⟩ := bd hD
    refine ew_putI 7 5 dX8_text_31 rfl (Nat.le_of_ble_eq_true rfl) w_595 in_X8 tyX8_ok nmX8 (Or.inl rfl) rfl g ?_
    refine ev_aload_n dX8_text_34 0 rfl rfl ?_
    obtain ⟨v8, g, hD⟩ := bd hD
    refine ew_getR 7 8 dX8_text_35 rfl (Nat.le_of_ble_eq_true rfl) w_598 in_X8 rfl g ?_
    obtain ⟨v9, g, hD⟩ := bd hD
    refine ew_getI 2 1 dX8_text_38 rfl (Nat.le_of_ble_eq_true rfl) w_342 in_X2 rfl g ?_
    by_cases c : v9 = 0
    · rw [if_pos c] at hD
      refine ev_if_eq_t (tgt := 66) dX8_text_41 (by decide) c ?_
      refine ev_aload_n dX8_text_66 0 rfl rfl ?_
      refine ev_iconst dX8_text_67 (mi_c rfl) ?_
      obtain ⟨s10, g, hD⟩ := bd hD
      refine ew_putI 7 6 dX8_text_68 rfl (Nat.le_of_ble_eq_true rfl) w_596 in_X8 tyX8_ok nmX8 (Or.inl rfl) rfl g ?_
      refine ev_aload_n dX8_text_71 0 rfl rfl ?_
      obtain ⟨v11, g, hD⟩ := bd hD
      refine ew_getR 7 1 dX8_text_72 rfl (Nat.le_of_ble_eq_true rfl) w_591 in_X8 rfl g ?_
      refine ev_aload_n dX8_text_75 0 rfl rfl ?_
      obtain ⟨v12, g, hD⟩ := bd hD
      refine ew_getR 7 8 dX8_text_76 rfl (Nat.le_of_ble_eq_true rfl) w_598 in_X8 rfl g ?_
      obtain ⟨v13, g, hD⟩ := bd hD
      refine ew_getR 2 0 dX8_text_79 rfl (Nat.le_of_ble_eq_true rfl) w_340 in_X2 rfl g ?_
      obtain ⟨_, g0, hD⟩ := bd hD
      obtain ⟨r14, g, hD⟩ := bd hD
      refine ew_callV0 (as := [vr v13]) (a := v11) (rest := []) dX8_text_82 v_X5_copyFrom w_643 rfl (Nat.le_of_ble_eq_true rfl) rfl rfl g0 (Nat.le_of_ble_eq_true rfl) (Nat.le_of_ble_eq_true rfl) (ct_X5_copyFrom g) ?_
      refine ev_aload_n dX8_text_85 0 rfl rfl ?_
      obtain ⟨v15, g, hD⟩ := bd hD
      refine ew_getR 7 1 dX8_text_86 rfl (Nat.le_of_ble_eq_true rfl) w_591 in_X8 rfl g ?_
      refine ev_aload_n dX8_text_89 0 rfl rfl ?_
      obtain ⟨v16, g, hD⟩ := bd hD
      refine ew_getR 7 0 dX8_text_90 rfl (Nat.le_of_ble_eq_true rfl) w_590 in_X8 rfl g ?_
      obtain ⟨_, g0, hD⟩ := bd hD
      obtain ⟨r17, g, hD⟩ := bd hD
      refine ew_callV0 (as := [vr v16]) (a := v15) (rest := []) dX8_text_93 v_X5_layAges w_481 rfl (Nat.le_of_ble_eq_true rfl) rfl rfl g0 (Nat.le_of_ble_eq_true rfl) (Nat.le_of_ble_eq_true rfl) (ct_X5_layAges g) ?_
      refine ev_aload_n dX8_text_96 0 rfl rfl ?_
      refine ev_iconst dX8_text_97 (mi_c rfl) ?_
      obtain ⟨s18, g, hD⟩ := bd hD
      refine ew_putI 7 3 dX8_text_98 rfl (Nat.le_of_ble_eq_true rfl) w_593 in_X8 tyX8_ok nmX8 (Or.inl rfl) rfl g ?_
      refine ev_aload_n dX8_text_101 0 rfl rfl ?_
      obtain ⟨_, g0, hD⟩ := bd hD
      obtain ⟨r19, g, hD⟩ := bd hD
      refine ew_callV0 (as := []) (a := x0) (rest := []) dX8_text_102 v_X8_renew w_485 rfl (Nat.le_of_ble_eq_true rfl) rfl rfl g0 (Nat.le_of_ble_eq_true rfl) (Nat.le_of_ble_eq_true rfl) (ct_X8_renew g) ?_
      refine ev_aload_n dX8_text_105 0 rfl rfl ?_
      obtain ⟨v20, g, hD⟩ := bd hD
      refine ew_getR 7 1 dX8_text_106 rfl (Nat.le_of_ble_eq_true rfl) w_591 in_X8 rfl g ?_
      obtain ⟨v21, g, hD⟩ := bd hD
      refine ew_getI 5 3 dX8_text_109 rfl (Nat.le_of_ble_eq_true rfl) w_278 in_X5 rfl g ?_
      cases hD
      exact ev_ret (some (vi _)) dX8_text_112 True.intro
    · rw [if_neg c] at hD
      refine ev_if_eq_f 66 dX8_text_41 (by decide) c ?_
      refine ev_aload_n dX8_text_44 0 rfl rfl ?_
      refine ev_aload_n dX8_text_45 0 rfl rfl ?_
      obtain ⟨v22, g, hD⟩ := bd hD
      refine ew_getR 7 8 dX8_text_46 rfl (Nat.le_of_ble_eq_true rfl) w_598 in_X8 rfl g ?_
      obtain ⟨v23, g, hD⟩ := bd hD
      refine ew_getI 2 2 dX8_text_49 rfl (Nat.le_of_ble_eq_true rfl) w_344 in_X2 rfl g ?_
      obtain ⟨s24, g, hD⟩ := bd hD
      refine ew_putI 7 6 dX8_text_52 rfl (Nat.le_of_ble_eq_true rfl) w_596 in_X8 tyX8_ok nmX8 (Or.inl rfl) rfl g ?_
      refine ev_aload_n dX8_text_55 0 rfl rfl ?_
      obtain ⟨v25, g, hD⟩ := bd hD
      refine ew_getR 7 8 dX8_text_56 rfl (Nat.le_of_ble_eq_true rfl) w_598 in_X8 rfl g ?_
      obtain ⟨v26, g, hD⟩ := bd hD
      refine ew_getI 2 1 dX8_text_59 rfl (Nat.le_of_ble_eq_true rfl) w_342 in_X2 rfl g ?_
      refine ev_bp dX8_text_62 rfl ?_
      refine ev_isub dX8_text_64 ?_
      cases hD
      exact ev_ret (some (vi _)) dX8_text_65 True.intro
  · cases hD
    exact ev_thrV (as := [vi y0]) (a := y1) (rest := []) dX8_text_18 v_X8_needArgument w_714 rfl (Nat.le_of_ble_eq_true rfl) rfl rfl (tgO_s g0) (Nat.le_of_ble_eq_true rfl) (Nat.le_of_ble_eq_true rfl) rfl (ct_X8_needArgument g)
def D_X8_text_17 (x0 : Nat) (x1 : Int) (y0 : Nat) (σ : mS) : Option ((Int ⊕ Nat) × mS) :=
  D_X8_text_18 x0 x1 0 y0 σ
set_option maxRecDepth 100000 in
set_option maxHeartbeats 4000000 in
theorem lk_X8_text_17 {G : mG} {x0 : Nat} {x1 : Int} {y0 : Nat} {σ : mS} {R : ((Int ⊕ Nat) × mS)} (hD : D_X8_text_17 x0 x1 y0 σ = some R) : Ev G M_X8_text 17 [(0, vr x0), (1, vi x1)] [vr y0] σ (mRsI R.1) R.2 := by
  unfold D_X8_text_17 at hD
  refine ev_iconst dX8_text_17 (mi_c rfl) ?_
  exact lk_X8_text_18 hD
def D_X8_text (x0 : Nat) (x1 : Int) (σ : mS) : Option ((Int ⊕ Nat) × mS) :=
  if x1 < 0 then
    D_X8_text_17 x0 x1 x0 σ
  else
    (gI σ x0 7 5).bind fun v1 =>
    if v1 < x1 then
      D_X8_text_17 x0 x1 x0 σ
    else
      D_X8_text_18 x0 x1 1 x0 σ
set_option maxRecDepth 100000 in
set_option maxHeartbeats 4000000 in
theorem lk_X8_text {G : mG} {x0 : Nat} {x1 : Int} {σ : mS} {R : ((Int ⊕ Nat) × mS)} (hD : D_X8_text x0 x1 σ = some R) : Ev G M_X8_text 0 [(0, vr x0), (1, vi x1)] [] σ (mRsI R.1) R.2 := by
  unfold D_X8_text at hD
  refine ev_aload_n dX8_text_0 0 rfl rfl ?_
  refine ev_iload_n dX8_text_1 1 rfl rfl ?_
  by_cases c : x1 < 0
  · rw [if_pos c] at hD
    refine ev_if_lt_t (tgt := 17) dX8_text_2 (by decide) c ?_
    exact lk_X8_text_17 hD
  · rw [if_neg c] at hD
    refine ev_if_lt_f 17 dX8_text_2 (by decide) c ?_
    refine ev_iload_n dX8_text_5 1 rfl rfl ?_
    refine ev_aload_n dX8_text_6 0 rfl rfl ?_
    obtain ⟨v1, g, hD⟩ := bd hD
    refine ew_getI 7 5 dX8_text_7 rfl (Nat.le_of_ble_eq_true rfl) w_595 in_X8 rfl g ?_
    by_cases c : v1 < x1
    · rw [if_pos c] at hD
      refine ev_icmp_gt_t (tgt := 17) dX8_text_10 (by decide) c ?_
      exact lk_X8_text_17 hD
    · rw [if_neg c] at hD
      refine ev_icmp_gt_f 17 dX8_text_10 (by decide) c ?_
      refine ev_iconst dX8_text_13 (mi_c rfl) ?_
      refine ev_goto (tgt := 18) dX8_text_14 (by decide) ?_
      exact lk_X8_text_18 hD
theorem ct_X8_text {G : mG} {x0 : Nat} {x1 : Int} {σ : mS} {R : ((Int ⊕ Nat) × mS)} (hD : D_X8_text x0 x1 σ = some R) : Ct G M_X8_text [vr x0, vi x1] σ (mRsI R.1) R.2 := ct_of rfl (by decide +kernel) rfl (Nat.le_of_ble_eq_true rfl) rfl (lk_X8_text hD)
def D_X8_fault (x0 : Nat) (σ : mS) : Option Int :=
  (gI σ x0 7 6).bind fun v1 =>
  some v1
set_option maxRecDepth 100000 in
set_option maxHeartbeats 4000000 in
theorem lk_X8_fault {G : mG} {x0 : Nat} {σ : mS} {R : Int} (hD : D_X8_fault x0 σ = some R) : Ev G M_X8_fault 0 [(0, vr x0)] [] σ (.inl (some (vi R))) σ := by
  unfold D_X8_fault at hD
  refine ev_aload_n dX8_fault_0 0 rfl rfl ?_
  obtain ⟨v1, g, hD⟩ := bd hD
  refine ew_getI 7 6 dX8_fault_1 rfl (Nat.le_of_ble_eq_true rfl) w_596 in_X8 rfl g ?_
  cases hD
  exact ev_ret (some (vi _)) dX8_fault_4 True.intro
theorem ct_X8_fault {G : mG} {x0 : Nat} {σ : mS} {R : Int} (hD : D_X8_fault x0 σ = some R) : Ct G M_X8_fault [vr x0] σ (.inl (some (vi R))) σ := ct_of rfl (by decide +kernel) rfl (Nat.le_of_ble_eq_true rfl) rfl (lk_X8_fault hD)
def D_X8_keepForUndo_62 (x0 : Nat) (σ : mS) : Option mS :=
  (gR σ x0 7 2).bind fun v1 =>
  (gI σ x0 7 3).bind fun v2 =>
  (lR σ v1 v2).bind fun v3 =>
  (gR σ x0 7 1).bind fun v4 =>
  (tgO σ v3 5).bind fun _ =>
  (D_X5_copyFrom v3 v4 σ).bind fun r5 =>
  (gI r5 x0 7 3).bind fun v6 =>
  (pI r5 x0 7 3 (mw (v6 + 1))).bind fun s7 =>
  some s7
set_option maxRecDepth 100000 in
set_option maxHeartbeats 4000000 in
theorem lk_X8_keepForUndo_62 {G : mG} {x0 : Nat} {σ : mS} {R : mS} (hD : D_X8_keepForUndo_62 x0 σ = some R) : Ev G M_X8_keepForUndo 62 [(0, vr x0)] [] σ (.inl none) R := by
  unfold D_X8_keepForUndo_62 at hD
  refine ev_aload_n dX8_keepForUndo_62 0 rfl rfl ?_
  obtain ⟨v1, g, hD⟩ := bd hD
  refine ew_getR 7 2 dX8_keepForUndo_63 rfl (Nat.le_of_ble_eq_true rfl) w_592 in_X8 rfl g ?_
  refine ev_aload_n dX8_keepForUndo_66 0 rfl rfl ?_
  obtain ⟨v2, g, hD⟩ := bd hD
  refine ew_getI 7 3 dX8_keepForUndo_67 rfl (Nat.le_of_ble_eq_true rfl) w_593 in_X8 rfl g ?_
  obtain ⟨v3, g, hD⟩ := bd hD
  refine ew_aald dX8_keepForUndo_70 g ?_
  refine ev_aload_n dX8_keepForUndo_71 0 rfl rfl ?_
  obtain ⟨v4, g, hD⟩ := bd hD
  refine ew_getR 7 1 dX8_keepForUndo_72 rfl (Nat.le_of_ble_eq_true rfl) w_591 in_X8 rfl g ?_
  obtain ⟨_, g0, hD⟩ := bd hD
  obtain ⟨r5, g, hD⟩ := bd hD
  refine ew_callV0 (as := [vr v4]) (a := v3) (rest := []) dX8_keepForUndo_75 v_X5_copyFrom w_643 rfl (Nat.le_of_ble_eq_true rfl) rfl rfl g0 (Nat.le_of_ble_eq_true rfl) (Nat.le_of_ble_eq_true rfl) (ct_X5_copyFrom g) ?_
  refine ev_aload_n dX8_keepForUndo_78 0 rfl rfl ?_
  refine ev_dup dX8_keepForUndo_79 rfl ?_
  obtain ⟨v6, g, hD⟩ := bd hD
  refine ew_getI 7 3 dX8_keepForUndo_80 rfl (Nat.le_of_ble_eq_true rfl) w_593 in_X8 rfl g ?_
  refine ev_iconst dX8_keepForUndo_83 (mi_c rfl) ?_
  refine ev_iadd dX8_keepForUndo_84 ?_
  obtain ⟨s7, g, hD⟩ := bd hD
  refine ew_putI 7 3 dX8_keepForUndo_85 rfl (Nat.le_of_ble_eq_true rfl) w_593 in_X8 tyX8_ok nmX8 (Or.inl rfl) rfl g ?_
  cases hD
  exact ev_ret none dX8_keepForUndo_88 True.intro
def D_X8_keepForUndo_18 : Nat → Nat → Int → mS → Option mS
  | 0, _, _, _ => none
  | f + 1, x0, x2, σ =>
    if 12 ≤ x2 then
      some σ
    else
      (gR σ x0 7 2).bind fun v1 =>
      (gR σ x0 7 2).bind fun v2 =>
      (lR σ v2 x2).bind fun v3 =>
      (sR σ v1 (mw (x2 - 1)) v3).bind fun s4 =>
      (D_X8_keepForUndo_18 f) x0 (mw (x2 + 1)) s4
set_option maxRecDepth 100000 in
set_option maxHeartbeats 4000000 in
theorem lk_X8_keepForUndo_18 {G : mG} {x1 : Nat} (f : Nat) : ∀ {x0 : Nat} {x2 : Int} {σ : mS} {R : mS}, D_X8_keepForUndo_18 f x0 x2 σ = some R → ∀ {r : mX} {τ : mS}, Ev G M_X8_keepForUndo 44 [(0, vr x0), (1, vr x1)] [] R r τ → Ev G M_X8_keepForUndo 18 [(0, vr x0), (1, vr x1), (2, vi x2)] [] σ r τ := by
  induction f with
  | zero =>
    intros
    rename_i hD _ _ _
    cases hD
  | succ f ih =>
    intro x0 x2 σ R hD r τ hk
    have hrec := @ih
    rw [D_X8_keepForUndo_18] at hD
    refine ev_iload_n dX8_keepForUndo_18 2 rfl rfl ?_
    refine ev_bp dX8_keepForUndo_19 rfl ?_
    by_cases c : 12 ≤ x2
    · rw [if_pos c] at hD
      refine ev_icmp_ge_t (tgt := 44) dX8_keepForUndo_21 (by decide) c ?_
      cases hD
      refine Ev.pick [0, 1] rfl ?_
      exact hk
    · rw [if_neg c] at hD
      refine ev_icmp_ge_f 44 dX8_keepForUndo_21 (by decide) c ?_
      refine ev_aload_n dX8_keepForUndo_24 0 rfl rfl ?_
      obtain ⟨v1, g, hD⟩ := bd hD
      refine ew_getR 7 2 dX8_keepForUndo_25 rfl (Nat.le_of_ble_eq_true rfl) w_592 in_X8 rfl g ?_
      refine ev_iload_n dX8_keepForUndo_28 2 rfl rfl ?_
      refine ev_iconst dX8_keepForUndo_29 (mi_c rfl) ?_
      refine ev_isub dX8_keepForUndo_30 ?_
      refine ev_aload_n dX8_keepForUndo_31 0 rfl rfl ?_
      obtain ⟨v2, g, hD⟩ := bd hD
      refine ew_getR 7 2 dX8_keepForUndo_32 rfl (Nat.le_of_ble_eq_true rfl) w_592 in_X8 rfl g ?_
      refine ev_iload_n dX8_keepForUndo_35 2 rfl rfl ?_
      obtain ⟨v3, g, hD⟩ := bd hD
      refine ew_aald dX8_keepForUndo_36 g ?_
      obtain ⟨s4, g, hD⟩ := bd hD
      refine ew_aast dX8_keepForUndo_37 g ?_
      refine ev_iinc dX8_keepForUndo_38 2 rfl (Nat.le_of_ble_eq_true rfl) rfl ?_
      refine ev_goto (tgt := 18) dX8_keepForUndo_41 (by decide) ?_
      refine Ev.pick [1, 2, 0] rfl ?_
      exact hrec hD hk
def D_X8_keepForUndo (x0 : Nat) (σ : mS) : Option mS :=
  (gI σ x0 7 3).bind fun v1 =>
  if v1 ≠ 12 then
    D_X8_keepForUndo_62 x0 σ
  else
    (gR σ x0 7 2).bind fun v2 =>
    (lR σ v2 0).bind fun v3 =>
    (D_X8_keepForUndo_18 mFU x0 1 σ).bind fun r4 =>
    (gR r4 x0 7 2).bind fun v5 =>
    (sR r4 v5 11 v3).bind fun s6 =>
    (gI s6 x0 7 3).bind fun v7 =>
    (pI s6 x0 7 3 (mw (v7 - 1))).bind fun s8 =>
    D_X8_keepForUndo_62 x0 s8
set_option maxRecDepth 100000 in
set_option maxHeartbeats 4000000 in
theorem lk_X8_keepForUndo {G : mG} {x0 : Nat} {σ : mS} {R : mS} (hD : D_X8_keepForUndo x0 σ = some R) : Ev G M_X8_keepForUndo 0 [(0, vr x0)] [] σ (.inl none) R := by
  unfold D_X8_keepForUndo at hD
  refine ev_aload_n dX8_keepForUndo_0 0 rfl rfl ?_
  obtain ⟨v1, g, hD⟩ := bd hD
  refine ew_getI 7 3 dX8_keepForUndo_1 rfl (Nat.le_of_ble_eq_true rfl) w_593 in_X8 rfl g ?_
  refine ev_bp dX8_keepForUndo_4 rfl ?_
  by_cases c : v1 ≠ 12
  · rw [if_pos c] at hD
    refine ev_icmp_ne_t (tgt := 62) dX8_keepForUndo_6 (by decide) c ?_
    exact lk_X8_keepForUndo_62 hD
  · rw [if_neg c] at hD
    refine ev_icmp_ne_f 62 dX8_keepForUndo_6 (by decide) c ?_
    refine ev_aload_n dX8_keepForUndo_9 0 rfl rfl ?_
    obtain ⟨v2, g, hD⟩ := bd hD
    refine ew_getR 7 2 dX8_keepForUndo_10 rfl (Nat.le_of_ble_eq_true rfl) w_592 in_X8 rfl g ?_
    refine ev_iconst dX8_keepForUndo_13 (mi_c rfl) ?_
    obtain ⟨v3, g, hD⟩ := bd hD
    refine ew_aald dX8_keepForUndo_14 g ?_
    refine ev_astore_n dX8_keepForUndo_15 rfl (Nat.le_of_ble_eq_true rfl) rfl ?_
    refine ev_iconst dX8_keepForUndo_16 (mi_c rfl) ?_
    refine ev_istore_n dX8_keepForUndo_17 rfl (Nat.le_of_ble_eq_true rfl) rfl ?_
    obtain ⟨r4, g, hD⟩ := bd hD
    refine Ev.pick [2, 1, 0] rfl ?_
    refine lk_X8_keepForUndo_18 mFU g ?_
    refine ev_aload_n dX8_keepForUndo_44 0 rfl rfl ?_
    obtain ⟨v5, g, hD⟩ := bd hD
    refine ew_getR 7 2 dX8_keepForUndo_45 rfl (Nat.le_of_ble_eq_true rfl) w_592 in_X8 rfl g ?_
    refine ev_bp dX8_keepForUndo_48 rfl ?_
    refine ev_aload_n dX8_keepForUndo_50 1 rfl rfl ?_
    obtain ⟨s6, g, hD⟩ := bd hD
    refine ew_aast dX8_keepForUndo_51 g ?_
    refine ev_aload_n dX8_keepForUndo_52 0 rfl rfl ?_
    refine ev_dup dX8_keepForUndo_53 rfl ?_
    obtain ⟨v7, g, hD⟩ := bd hD
    refine ew_getI 7 3 dX8_keepForUndo_54 rfl (Nat.le_of_ble_eq_true rfl) w_593 in_X8 rfl g ?_
    refine ev_iconst dX8_keepForUndo_57 (mi_c rfl) ?_
    refine ev_isub dX8_keepForUndo_58 ?_
    obtain ⟨s8, g, hD⟩ := bd hD
    refine ew_putI 7 3 dX8_keepForUndo_59 rfl (Nat.le_of_ble_eq_true rfl) w_593 in_X8 tyX8_ok nmX8 (Or.inl rfl) rfl g ?_
    refine Ev.pick [0] rfl ?_
    exact lk_X8_keepForUndo_62 hD
theorem ct_X8_keepForUndo {G : mG} {x0 : Nat} {σ : mS} {R : mS} (hD : D_X8_keepForUndo x0 σ = some R) : Ct G M_X8_keepForUndo [vr x0] σ (.inl none) R := ct_of rfl (by decide +kernel) rfl (Nat.le_of_ble_eq_true rfl) rfl (lk_X8_keepForUndo hD)
def D_X8_set_114 (x0 : Nat) (x5 : Int) (σ : mS) : Option ((Int ⊕ Nat) × mS) :=
  (tgO σ x0 7).bind fun _ =>
  (D_X8_renew x0 σ).bind fun r1 =>
  some (Sum.inl x5, r1)
set_option maxRecDepth 100000 in
set_option maxHeartbeats 4000000 in
theorem lk_X8_set_114 {G : mG} {x0 : Nat} {x5 : Int} {σ : mS} {R : ((Int ⊕ Nat) × mS)} (hD : D_X8_set_114 x0 x5 σ = some R) : Ev G M_X8_set 114 [(0, vr x0), (5, vi x5)] [] σ (mRsI R.1) R.2 := by
  unfold D_X8_set_114 at hD
  refine ev_aload_n dX8_set_114 0 rfl rfl ?_
  obtain ⟨_, g0, hD⟩ := bd hD
  obtain ⟨r1, g, hD⟩ := bd hD
  refine ew_callV0 (as := []) (a := x0) (rest := []) dX8_set_115 v_X8_renew w_485 rfl (Nat.le_of_ble_eq_true rfl) rfl rfl g0 (Nat.le_of_ble_eq_true rfl) (Nat.le_of_ble_eq_true rfl) (ct_X8_renew g) ?_
  refine ev_iload dX8_set_118 1 rfl ?_
  cases hD
  exact ev_ret (some (vi _)) dX8_set_120 True.intro
def D_X8_set_89 (x0 : Nat) (x2 : Int) (x3 : Int) (y0 : Int) (σ : mS) : Option ((Int ⊕ Nat) × mS) :=
  if x3 = 0 then
    (gR σ x0 7 1).bind fun v1 =>
    (pI σ v1 5 1 x2).bind fun s2 =>
    D_X8_set_114 x0 y0 s2
  else
    (gR σ x0 7 1).bind fun v3 =>
    (pI σ v3 5 0 x2).bind fun s4 =>
    D_X8_set_114 x0 y0 s4
set_option maxRecDepth 100000 in
set_option maxHeartbeats 4000000 in
theorem lk_X8_set_89 {G : mG} {x0 : Nat} {x2 : Int} {x3 : Int} {y0 : Int} {σ : mS} {R : ((Int ⊕ Nat) × mS)} (hD : D_X8_set_89 x0 x2 x3 y0 σ = some R) : Ev G M_X8_set 89 [(0, vr x0), (2, vi x2), (3, vi x3)] [vi y0] σ (mRsI R.1) R.2 := by
  unfold D_X8_set_89 at hD
  refine ev_istore dX8_set_89 (Nat.le_of_ble_eq_true rfl) rfl ?_
  refine ev_iload_n dX8_set_91 3 rfl rfl ?_
  by_cases c : x3 = 0
  · rw [if_pos c] at hD
    refine ev_if_eq_t (tgt := 106) dX8_set_92 (by decide) c ?_
    refine ev_aload_n dX8_set_106 1 rfl rfl ?_
    obtain ⟨v1, g, hD⟩ := bd hD
    refine ew_getR 7 1 dX8_set_107 rfl (Nat.le_of_ble_eq_true rfl) w_591 in_X8 rfl g ?_
    refine ev_iload_n dX8_set_110 2 rfl rfl ?_
    obtain ⟨s2, g, hD⟩ := bd hD
    refine ew_putI 5 1 dX8_set_111 rfl (Nat.le_of_ble_eq_true rfl) w_269 in_X5 tyX5_ok nmX5 (Or.inl rfl) rfl g ?_
    refine Ev.pick [1, 0] rfl ?_
    exact lk_X8_set_114 hD
  · rw [if_neg c] at hD
    refine ev_if_eq_f 106 dX8_set_92 (by decide) c ?_
    refine ev_aload_n dX8_set_95 1 rfl rfl ?_
    obtain ⟨v3, g, hD⟩ := bd hD
    refine ew_getR 7 1 dX8_set_96 rfl (Nat.le_of_ble_eq_true rfl) w_591 in_X8 rfl g ?_
    refine ev_iload_n dX8_set_99 2 rfl rfl ?_
    obtain ⟨s4, g, hD⟩ := bd hD
    refine ew_putI 5 0 dX8_set_100 rfl (Nat.le_of_ble_eq_true rfl) w_266 in_X5 tyX5_ok nmX5 (Or.inl rfl) rfl g ?_
    refine ev_goto (tgt := 114) dX8_set_103 (by decide) ?_
    refine Ev.pick [1, 0] rfl ?_
    exact lk_X8_set_114 hD
def D_X8_set_61 (x0 : Nat) (x2 : Int) (x3 : Int) (y0 : Int) (y1 : Nat) (σ : mS) : Option ((Int ⊕ Nat) × mS) :=
  (tgO σ y1 7).bind fun _ =>
  (D_X8_needArgument y1 y0 σ).bind fun r1 =>
  match r1 with
  | (Sum.inl _, s4) =>
    (tgO s4 x0 7).bind fun _ =>
    (D_X8_keepForUndo x0 s4).bind fun r5 =>
    if x3 = 0 then
      (gR r5 x0 7 1).bind fun v6 =>
      (gI r5 v6 5 1).bind fun v7 =>
      D_X8_set_89 x0 x2 x3 v7 r5
    else
      (gR r5 x0 7 1).bind fun v8 =>
      (gI r5 v8 5 0).bind fun v9 =>
      D_X8_set_89 x0 x2 x3 v9 r5
  | (Sum.inr e3, s4) => some (Sum.inr e3, s4)
set_option maxRecDepth 100000 in
set_option maxHeartbeats 4000000 in
theorem lk_X8_set_61 {G : mG} {x0 : Nat} {x2 : Int} {x3 : Int} {y0 : Int} {y1 : Nat} {σ : mS} {R : ((Int ⊕ Nat) × mS)} (hD : D_X8_set_61 x0 x2 x3 y0 y1 σ = some R) : Ev G M_X8_set 61 [(0, vr x0), (2, vi x2), (3, vi x3)] [vi y0, vr y1] σ (mRsI R.1) R.2 := by
  unfold D_X8_set_61 at hD
  obtain ⟨_, g0, hD⟩ := bd hD
  obtain ⟨r1, g, hD⟩ := bd hD
  obtain ⟨v2 | e3, s4⟩ := r1
  · refine ew_callV0 (as := [vi y0]) (a := y1) (rest := []) dX8_set_61 v_X8_needArgument w_714 rfl (Nat.le_of_ble_eq_true rfl) rfl rfl g0 (Nat.le_of_ble_eq_true rfl) (Nat.le_of_ble_eq_true rfl) (ct_X8_needArgument g) ?_
    dsimp only at hD
    refine ev_aload_n dX8_set_64 0 rfl rfl ?_
    obtain ⟨_, g0, hD⟩ := bd hD
    obtain ⟨r5, g, hD⟩ := bd hD
    refine ew_callV0 (as := []) (a := x0) (rest := []) dX8_set_65 v_X8_keepForUndo w_956 rfl (Nat.le_of_ble_eq_true rfl) rfl rfl g0 (Nat.le_of_ble_eq_true rfl) (Nat.le_of_ble_eq_true rfl) (ct_X8_keepForUndo g) ?_
    refine ev_iload_n dX8_set_68 2 rfl rfl ?_
    by_cases c : x3 = 0
    · rw [if_pos c] at hD
      refine ev_if_eq_t (tgt := 82) dX8_set_69 (by decide) c ?_
      refine ev_aload_n dX8_set_82 0 rfl rfl ?_
      obtain ⟨v6, g, hD⟩ := bd hD
      refine ew_getR 7 1 dX8_set_83 rfl (Nat.le_of_ble_eq_true rfl) w_591 in_X8 rfl g ?_
      obtain ⟨v7, g, hD⟩ := bd hD
      refine ew_getI 5 1 dX8_set_86 rfl (Nat.le_of_ble_eq_true rfl) w_269 in_X5 rfl g ?_
      exact lk_X8_set_89 hD
    · rw [if_neg c] at hD
      refine ev_if_eq_f 82 dX8_set_69 (by decide) c ?_
      refine ev_aload_n dX8_set_72 0 rfl rfl ?_
      obtain ⟨v8, g, hD⟩ := bd hD
      refine ew_getR 7 1 dX8_set_73 rfl (Nat.le_of_ble_eq_true rfl) w_591 in_X8 rfl g ?_
      obtain ⟨v9, g, hD⟩ := bd hD
      refine ew_getI 5 0 dX8_set_76 rfl (Nat.le_of_ble_eq_true rfl) w_266 in_X5 rfl g ?_
      refine ev_goto (tgt := 89) dX8_set_79 (by decide) ?_
      exact lk_X8_set_89 hD
  · cases hD
    exact ev_thrV (as := [vi y0]) (a := y1) (rest := []) dX8_set_61 v_X8_needArgument w_714 rfl (Nat.le_of_ble_eq_true rfl) rfl rfl (tgO_s g0) (Nat.le_of_ble_eq_true rfl) (Nat.le_of_ble_eq_true rfl) rfl (ct_X8_needArgument g)
def D_X8_set_56 (x0 : Nat) (x2 : Int) (x3 : Int) (y0 : Nat) (σ : mS) : Option ((Int ⊕ Nat) × mS) :=
  D_X8_set_61 x0 x2 x3 1 y0 σ
set_option maxRecDepth 100000 in
set_option maxHeartbeats 4000000 in
theorem lk_X8_set_56 {G : mG} {x0 : Nat} {x2 : Int} {x3 : Int} {y0 : Nat} {σ : mS} {R : ((Int ⊕ Nat) × mS)} (hD : D_X8_set_56 x0 x2 x3 y0 σ = some R) : Ev G M_X8_set 56 [(0, vr x0), (2, vi x2), (3, vi x3)] [vr y0] σ (mRsI R.1) R.2 := by
  unfold D_X8_set_56 at hD
  refine ev_iconst dX8_set_56 (mi_c rfl) ?_
  refine ev_goto (tgt := 61) dX8_set_57 (by decide) ?_
  exact lk_X8_set_61 hD
def D_X8_set_44 (x0 : Nat) (x2 : Int) (x3 : Int) (y0 : Int) (σ : mS) : Option ((Int ⊕ Nat) × mS) :=
  if x3 ≠ 0 then
    D_X8_set_56 x0 x2 x3 x0 σ
  else
    if y0 = 0 then
      D_X8_set_61 x0 x2 x3 0 x0 σ
    else
      D_X8_set_56 x0 x2 x3 x0 σ
set_option maxRecDepth 100000 in
set_option maxHeartbeats 4000000 in
theorem lk_X8_set_44 {G : mG} {x0 : Nat} {x2 : Int} {x3 : Int} {y0 : Int} {σ : mS} {R : ((Int ⊕ Nat) × mS)} (hD : D_X8_set_44 x0 x2 x3 y0 σ = some R) : Ev G M_X8_set 44 [(0, vr x0), (2, vi x2), (3, vi x3)] [vi y0] σ (mRsI R.1) R.2 := by
  unfold D_X8_set_44 at hD
  refine ev_istore dX8_set_44 (Nat.le_of_ble_eq_true rfl) rfl ?_
  refine ev_aload_n dX8_set_46 1 rfl rfl ?_
  refine ev_iload_n dX8_set_47 3 rfl rfl ?_
  by_cases c : x3 ≠ 0
  · rw [if_pos c] at hD
    refine ev_if_ne_t (tgt := 56) dX8_set_48 (by decide) c ?_
    refine Ev.pick [1, 2, 3] rfl ?_
    exact lk_X8_set_56 hD
  · rw [if_neg c] at hD
    refine ev_if_ne_f 56 dX8_set_48 (by decide) c ?_
    refine ev_iload dX8_set_51 0 rfl ?_
    by_cases c : y0 = 0
    · rw [if_pos c] at hD
      refine ev_if_eq_t (tgt := 60) dX8_set_53 (by decide) c ?_
      refine ev_iconst dX8_set_60 (mi_c rfl) ?_
      refine Ev.pick [1, 2, 3] rfl ?_
      exact lk_X8_set_61 hD
    · rw [if_neg c] at hD
      refine ev_if_eq_f 60 dX8_set_53 (by decide) c ?_
      refine Ev.pick [1, 2, 3] rfl ?_
      exact lk_X8_set_56 hD
def D_X8_set_43 (x0 : Nat) (x2 : Int) (x3 : Int) (σ : mS) : Option ((Int ⊕ Nat) × mS) :=
  D_X8_set_44 x0 x2 x3 0 σ
set_option maxRecDepth 100000 in
set_option maxHeartbeats 4000000 in
theorem lk_X8_set_43 {G : mG} {x0 : Nat} {x2 : Int} {x3 : Int} {σ : mS} {R : ((Int ⊕ Nat) × mS)} (hD : D_X8_set_43 x0 x2 x3 σ = some R) : Ev G M_X8_set 43 [(0, vr x0), (2, vi x2), (3, vi x3)] [] σ (mRsI R.1) R.2 := by
  unfold D_X8_set_43 at hD
  refine ev_iconst dX8_set_43 (mi_c rfl) ?_
  exact lk_X8_set_44 hD
def D_X8_set_19 (x0 : Nat) (x1 : Int) (x2 : Int) (y0 : Int) (σ : mS) : Option ((Int ⊕ Nat) × mS) :=
  if x1 ≠ 1 then
    D_X8_set_43 x0 x2 y0 σ
  else
    if x2 < (-500) then
      D_X8_set_43 x0 x2 y0 σ
    else
      if 500 < x2 then
        D_X8_set_43 x0 x2 y0 σ
      else
        D_X8_set_44 x0 x2 y0 1 σ
set_option maxRecDepth 100000 in
set_option maxHeartbeats 4000000 in
theorem lk_X8_set_19 {G : mG} {x0 : Nat} {x1 : Int} {x2 : Int} {y0 : Int} {σ : mS} {R : ((Int ⊕ Nat) × mS)} (hD : D_X8_set_19 x0 x1 x2 y0 σ = some R) : Ev G M_X8_set 19 [(0, vr x0), (1, vi x1), (2, vi x2)] [vi y0] σ (mRsI R.1) R.2 := by
  unfold D_X8_set_19 at hD
  refine ev_istore_n dX8_set_19 rfl (Nat.le_of_ble_eq_true rfl) rfl ?_
  refine ev_iload_n dX8_set_20 2 rfl rfl ?_
  refine ev_iconst dX8_set_21 (mi_c rfl) ?_
  by_cases c : x1 ≠ 1
  · rw [if_pos c] at hD
    refine ev_icmp_ne_t (tgt := 43) dX8_set_22 (by decide) c ?_
    refine Ev.pick [1, 3, 0] rfl ?_
    exact lk_X8_set_43 hD
  · rw [if_neg c] at hD
    refine ev_icmp_ne_f 43 dX8_set_22 (by decide) c ?_
    refine ev_iload_n dX8_set_25 3 rfl rfl ?_
    refine ev_sp dX8_set_26 rfl ?_
    by_cases c : x2 < (-500)
    · rw [if_pos c] at hD
      refine ev_icmp_lt_t (tgt := 43) dX8_set_29 (by decide) c ?_
      refine Ev.pick [1, 3, 0] rfl ?_
      exact lk_X8_set_43 hD
    · rw [if_neg c] at hD
      refine ev_icmp_lt_f 43 dX8_set_29 (by decide) c ?_
      refine ev_iload_n dX8_set_32 3 rfl rfl ?_
      refine ev_sp dX8_set_33 rfl ?_
      by_cases c : 500 < x2
      · rw [if_pos c] at hD
        refine ev_icmp_gt_t (tgt := 43) dX8_set_36 (by decide) c ?_
        refine Ev.pick [1, 3, 0] rfl ?_
        exact lk_X8_set_43 hD
      · rw [if_neg c] at hD
        refine ev_icmp_gt_f 43 dX8_set_36 (by decide) c ?_
        refine ev_iconst dX8_set_39 (mi_c rfl) ?_
        refine ev_goto (tgt := 44) dX8_set_40 (by decide) ?_
        refine Ev.pick [1, 3, 0] rfl ?_
        exact lk_X8_set_44 hD
def D_X8_set_18 (x0 : Nat) (x1 : Int) (x2 : Int) (σ : mS) : Option ((Int ⊕ Nat) × mS) :=
  D_X8_set_19 x0 x1 x2 0 σ
set_option maxRecDepth 100000 in
set_option maxHeartbeats 4000000 in
theorem lk_X8_set_18 {G : mG} {x0 : Nat} {x1 : Int} {x2 : Int} {σ : mS} {R : ((Int ⊕ Nat) × mS)} (hD : D_X8_set_18 x0 x1 x2 σ = some R) : Ev G M_X8_set 18 [(0, vr x0), (1, vi x1), (2, vi x2)] [] σ (mRsI R.1) R.2 := by
  unfold D_X8_set_18 at hD
  refine ev_iconst dX8_set_18 (mi_c rfl) ?_
  exact lk_X8_set_19 hD
def D_X8_set (x0 : Nat) (x1 : Int) (x2 : Int) (σ : mS) : Option ((Int ⊕ Nat) × mS) :=
  if x1 ≠ 0 then
    D_X8_set_18 x0 x1 x2 σ
  else
    if x2 < 1 then
      D_X8_set_18 x0 x1 x2 σ
    else
      if 3 < x2 then
        D_X8_set_18 x0 x1 x2 σ
      else
        D_X8_set_19 x0 x1 x2 1 σ
set_option maxRecDepth 100000 in
set_option maxHeartbeats 4000000 in
theorem lk_X8_set {G : mG} {x0 : Nat} {x1 : Int} {x2 : Int} {σ : mS} {R : ((Int ⊕ Nat) × mS)} (hD : D_X8_set x0 x1 x2 σ = some R) : Ev G M_X8_set 0 [(0, vr x0), (1, vi x1), (2, vi x2)] [] σ (mRsI R.1) R.2 := by
  unfold D_X8_set at hD
  refine ev_iload_n dX8_set_0 1 rfl rfl ?_
  by_cases c : x1 ≠ 0
  · rw [if_pos c] at hD
    refine ev_if_ne_t (tgt := 18) dX8_set_1 (by decide) c ?_
    exact lk_X8_set_18 hD
  · rw [if_neg c] at hD
    refine ev_if_ne_f 18 dX8_set_1 (by decide) c ?_
    refine ev_iload_n dX8_set_4 2 rfl rfl ?_
    refine ev_iconst dX8_set_5 (mi_c rfl) ?_
    by_cases c : x2 < 1
    · rw [if_pos c] at hD
      refine ev_icmp_lt_t (tgt := 18) dX8_set_6 (by decide) c ?_
      exact lk_X8_set_18 hD
    · rw [if_neg c] at hD
      refine ev_icmp_lt_f 18 dX8_set_6 (by decide) c ?_
      refine ev_iload_n dX8_set_9 2 rfl rfl ?_
      refine ev_iconst dX8_set_10 (mi_c rfl) ?_
      by_cases c : 3 < x2
      · rw [if_pos c] at hD
        refine ev_icmp_gt_t (tgt := 18) dX8_set_11 (by decide) c ?_
        exact lk_X8_set_18 hD
      · rw [if_neg c] at hD
        refine ev_icmp_gt_f 18 dX8_set_11 (by decide) c ?_
        refine ev_iconst dX8_set_14 (mi_c rfl) ?_
        refine ev_goto (tgt := 19) dX8_set_15 (by decide) ?_
        exact lk_X8_set_19 hD
theorem ct_X8_set {G : mG} {x0 : Nat} {x1 : Int} {x2 : Int} {σ : mS} {R : ((Int ⊕ Nat) × mS)} (hD : D_X8_set x0 x1 x2 σ = some R) : Ct G M_X8_set [vr x0, vi x1, vi x2] σ (mRsI R.1) R.2 := ct_of rfl (by decide +kernel) rfl (Nat.le_of_ble_eq_true rfl) rfl (lk_X8_set hD)
def D_X8_needThere (x0 : Nat) (x1 : Int) (σ : mS) : Option ((Unit ⊕ Nat) × mS) :=
  if x1 ≠ 0 then
    some (Sum.inl (), σ)
  else
    (gR σ x0 7 7).bind fun v1 =>
    (lI σ v1 0).bind fun v2 =>
    (sI σ v1 0 (mw (v2 + 1))).bind fun s3 =>
    some (Sum.inr 0, mExc s3)
set_option maxRecDepth 100000 in
set_option maxHeartbeats 4000000 in
theorem lk_X8_needThere {G : mG} {x0 : Nat} {x1 : Int} {σ : mS} {R : ((Unit ⊕ Nat) × mS)} (hD : D_X8_needThere x0 x1 σ = some R) : Ev G M_X8_needThere 0 [(0, vr x0), (1, vi x1)] [] σ (mRsU R.1) R.2 := by
  unfold D_X8_needThere at hD
  refine ev_iload_n dX8_needThere_0 1 rfl rfl ?_
  by_cases c : x1 ≠ 0
  · rw [if_pos c] at hD
    refine ev_if_ne_t (tgt := 22) dX8_needThere_1 (by decide) c ?_
    cases hD
    exact ev_ret none dX8_needThere_22 True.intro
  · rw [if_neg c] at hD
    refine ev_if_ne_f 22 dX8_needThere_1 (by decide) c ?_
    refine ev_aload_n dX8_needThere_4 0 rfl rfl ?_
    obtain ⟨v1, g, hD⟩ := bd hD
    refine ew_getR 7 7 dX8_needThere_5 rfl (Nat.le_of_ble_eq_true rfl) w_597 in_X8 rfl g ?_
    refine ev_iconst dX8_needThere_8 (mi_c rfl) ?_
    refine ev_dup2 dX8_needThere_9 rfl rfl ?_
    obtain ⟨v2, g, hD⟩ := bd hD
    refine ew_iald dX8_needThere_10 g ?_
    refine ev_iconst dX8_needThere_11 (mi_c rfl) ?_
    refine ev_iadd dX8_needThere_12 ?_
    obtain ⟨s3, g, hD⟩ := bd hD
    refine ew_iast dX8_needThere_13 g ?_
    cases hD
    exact ev_throw 0 dX8_needThere_14 dX8_needThere_17 dX8_needThere_18 dX8_needThere_21 rfl (by decide +kernel) w_976 w_147 (by decide +kernel) (Nat.le_of_ble_eq_true rfl) (Nat.le_of_ble_eq_true rfl) (Nat.le_of_ble_eq_true rfl)
theorem ct_X8_needThere {G : mG} {x0 : Nat} {x1 : Int} {σ : mS} {R : ((Unit ⊕ Nat) × mS)} (hD : D_X8_needThere x0 x1 σ = some R) : Ct G M_X8_needThere [vr x0, vi x1] σ (mRsU R.1) R.2 := ct_of rfl (by decide +kernel) rfl (Nat.le_of_ble_eq_true rfl) rfl (lk_X8_needThere hD)
def D_X8_needSample_21 (y0 : Int) (y1 : Nat) (σ : mS) : Option ((Unit ⊕ Nat) × mS) :=
  (tgO σ y1 7).bind fun _ =>
  (D_X8_needThere y1 y0 σ).bind fun r1 =>
  match r1 with
  | (Sum.inl _, s4) =>
    some (Sum.inl (), s4)
  | (Sum.inr e3, s4) => some (Sum.inr e3, s4)
set_option maxRecDepth 100000 in
set_option maxHeartbeats 4000000 in
theorem lk_X8_needSample_21 {G : mG} {y0 : Int} {y1 : Nat} {σ : mS} {R : ((Unit ⊕ Nat) × mS)} (hD : D_X8_needSample_21 y0 y1 σ = some R) : Ev G M_X8_needSample 21 [] [vi y0, vr y1] σ (mRsU R.1) R.2 := by
  unfold D_X8_needSample_21 at hD
  obtain ⟨_, g0, hD⟩ := bd hD
  obtain ⟨r1, g, hD⟩ := bd hD
  obtain ⟨v2 | e3, s4⟩ := r1
  · refine ew_callV0 (as := [vi y0]) (a := y1) (rest := []) dX8_needSample_21 v_X8_needThere w_972 rfl (Nat.le_of_ble_eq_true rfl) rfl rfl g0 (Nat.le_of_ble_eq_true rfl) (Nat.le_of_ble_eq_true rfl) (ct_X8_needThere g) ?_
    dsimp only at hD
    cases hD
    exact ev_ret none dX8_needSample_24 True.intro
  · cases hD
    exact ev_thrV (as := [vi y0]) (a := y1) (rest := []) dX8_needSample_21 v_X8_needThere w_972 rfl (Nat.le_of_ble_eq_true rfl) rfl rfl (tgO_s g0) (Nat.le_of_ble_eq_true rfl) (Nat.le_of_ble_eq_true rfl) rfl (ct_X8_needThere g)
def D_X8_needSample_20 (y0 : Nat) (σ : mS) : Option ((Unit ⊕ Nat) × mS) :=
  D_X8_needSample_21 0 y0 σ
set_option maxRecDepth 100000 in
set_option maxHeartbeats 4000000 in
theorem lk_X8_needSample_20 {G : mG} {y0 : Nat} {σ : mS} {R : ((Unit ⊕ Nat) × mS)} (hD : D_X8_needSample_20 y0 σ = some R) : Ev G M_X8_needSample 20 [] [vr y0] σ (mRsU R.1) R.2 := by
  unfold D_X8_needSample_20 at hD
  refine ev_iconst dX8_needSample_20 (mi_c rfl) ?_
  exact lk_X8_needSample_21 hD
def D_X8_needSample (x0 : Nat) (x1 : Int) (σ : mS) : Option ((Unit ⊕ Nat) × mS) :=
  if x1 < 0 then
    D_X8_needSample_20 x0 σ
  else
    (gR σ x0 7 1).bind fun v1 =>
    (gI σ v1 5 3).bind fun v2 =>
    if v2 ≤ x1 then
      D_X8_needSample_20 x0 σ
    else
      D_X8_needSample_21 1 x0 σ
set_option maxRecDepth 100000 in
set_option maxHeartbeats 4000000 in
theorem lk_X8_needSample {G : mG} {x0 : Nat} {x1 : Int} {σ : mS} {R : ((Unit ⊕ Nat) × mS)} (hD : D_X8_needSample x0 x1 σ = some R) : Ev G M_X8_needSample 0 [(0, vr x0), (1, vi x1)] [] σ (mRsU R.1) R.2 := by
  unfold D_X8_needSample at hD
  refine ev_aload_n dX8_needSample_0 0 rfl rfl ?_
  refine ev_iload_n dX8_needSample_1 1 rfl rfl ?_
  by_cases c : x1 < 0
  · rw [if_pos c] at hD
    refine ev_if_lt_t (tgt := 20) dX8_needSample_2 (by decide) c ?_
    refine Ev.pick [] rfl ?_
    exact lk_X8_needSample_20 hD
  · rw [if_neg c] at hD
    refine ev_if_lt_f 20 dX8_needSample_2 (by decide) c ?_
    refine ev_iload_n dX8_needSample_5 1 rfl rfl ?_
    refine ev_aload_n dX8_needSample_6 0 rfl rfl ?_
    obtain ⟨v1, g, hD⟩ := bd hD
    refine ew_getR 7 1 dX8_needSample_7 rfl (Nat.le_of_ble_eq_true rfl) w_591 in_X8 rfl g ?_
    obtain ⟨v2, g, hD⟩ := bd hD
    refine ew_getI 5 3 dX8_needSample_10 rfl (Nat.le_of_ble_eq_true rfl) w_278 in_X5 rfl g ?_
    by_cases c : v2 ≤ x1
    · rw [if_pos c] at hD
      refine ev_icmp_ge_t (tgt := 20) dX8_needSample_13 (by decide) c ?_
      refine Ev.pick [] rfl ?_
      exact lk_X8_needSample_20 hD
    · rw [if_neg c] at hD
      refine ev_icmp_ge_f 20 dX8_needSample_13 (by decide) c ?_
      refine ev_iconst dX8_needSample_16 (mi_c rfl) ?_
      refine ev_goto (tgt := 21) dX8_needSample_17 (by decide) ?_
      refine Ev.pick [] rfl ?_
      exact lk_X8_needSample_21 hD
theorem ct_X8_needSample {G : mG} {x0 : Nat} {x1 : Int} {σ : mS} {R : ((Unit ⊕ Nat) × mS)} (hD : D_X8_needSample x0 x1 σ = some R) : Ct G M_X8_needSample [vr x0, vi x1] σ (mRsU R.1) R.2 := ct_of rfl (by decide +kernel) rfl (Nat.le_of_ble_eq_true rfl) rfl (lk_X8_needSample hD)
def D_X8_redate_64 (x0 : Nat) (x2 : Int) (x3 : Int) (x4 : Nat) (y0 : Int) (σ : mS) : Option ((Int ⊕ Nat) × mS) :=
  (pB σ x4 4 0 0).bind fun s1 =>
  (pI s1 x4 4 1 x2).bind fun s2 =>
  (pI s2 x4 4 2 x3).bind fun s3 =>
  (tgO s3 x0 7).bind fun _ =>
  (D_X8_renew x0 s3).bind fun r4 =>
  some (Sum.inl y0, r4)
set_option maxRecDepth 100000 in
set_option maxHeartbeats 4000000 in
theorem lk_X8_redate_64 {G : mG} {x0 : Nat} {x2 : Int} {x3 : Int} {x4 : Nat} {y0 : Int} {σ : mS} {R : ((Int ⊕ Nat) × mS)} (hD : D_X8_redate_64 x0 x2 x3 x4 y0 σ = some R) : Ev G M_X8_redate 64 [(0, vr x0), (2, vi x2), (3, vi x3), (4, vr x4)] [vi y0] σ (mRsI R.1) R.2 := by
  unfold D_X8_redate_64 at hD
  refine ev_istore dX8_redate_64 (Nat.le_of_ble_eq_true rfl) rfl ?_
  refine ev_aload dX8_redate_66 4 rfl ?_
  refine ev_iconst dX8_redate_68 (mi_c rfl) ?_
  obtain ⟨s1, g, hD⟩ := bd hD
  refine ew_putB 4 0 dX8_redate_69 rfl (Nat.le_of_ble_eq_true rfl) w_176 in_X4 tyX4_ok nmX4 (Or.inl rfl) rfl g ?_
  refine ev_aload dX8_redate_72 4 rfl ?_
  refine ev_iload_n dX8_redate_74 2 rfl rfl ?_
  obtain ⟨s2, g, hD⟩ := bd hD
  refine ew_putI 4 1 dX8_redate_75 rfl (Nat.le_of_ble_eq_true rfl) w_180 in_X4 tyX4_ok nmX4 (Or.inl rfl) rfl g ?_
  refine ev_aload dX8_redate_78 4 rfl ?_
  refine ev_iload_n dX8_redate_80 3 rfl rfl ?_
  obtain ⟨s3, g, hD⟩ := bd hD
  refine ew_putI 4 2 dX8_redate_81 rfl (Nat.le_of_ble_eq_true rfl) w_184 in_X4 tyX4_ok nmX4 (Or.inl rfl) rfl g ?_
  refine ev_aload_n dX8_redate_84 1 rfl rfl ?_
  obtain ⟨_, g0, hD⟩ := bd hD
  obtain ⟨r4, g, hD⟩ := bd hD
  refine ew_callV0 (as := []) (a := x0) (rest := []) dX8_redate_85 v_X8_renew w_485 rfl (Nat.le_of_ble_eq_true rfl) rfl rfl g0 (Nat.le_of_ble_eq_true rfl) (Nat.le_of_ble_eq_true rfl) (ct_X8_renew g) ?_
  refine ev_iload dX8_redate_88 0 rfl ?_
  cases hD
  exact ev_ret (some (vi _)) dX8_redate_90 True.intro
def D_X8_redate_33 (x0 : Nat) (x1 : Int) (x2 : Int) (x3 : Int) (y0 : Int) (y1 : Nat) (σ : mS) : Option ((Int ⊕ Nat) × mS) :=
  (tgO σ y1 7).bind fun _ =>
  (D_X8_needArgument y1 y0 σ).bind fun r1 =>
  match r1 with
  | (Sum.inl _, s4) =>
    (tgO s4 x0 7).bind fun _ =>
    (D_X8_keepForUndo x0 s4).bind fun r5 =>
    (gR r5 x0 7 1).bind fun v6 =>
    (gR r5 v6 5 8).bind fun v7 =>
    (lR r5 v7 x1).bind fun v8 =>
    (gI r5 v8 4 0).bind fun v9 =>
    if v9 = 0 then
      D_X8_redate_64 x0 x2 x3 v8 0 r5
    else
      D_X8_redate_64 x0 x2 x3 v8 1 r5
  | (Sum.inr e3, s4) => some (Sum.inr e3, s4)
set_option maxRecDepth 100000 in
set_option maxHeartbeats 4000000 in
theorem lk_X8_redate_33 {G : mG} {x0 : Nat} {x1 : Int} {x2 : Int} {x3 : Int} {y0 : Int} {y1 : Nat} {σ : mS} {R : ((Int ⊕ Nat) × mS)} (hD : D_X8_redate_33 x0 x1 x2 x3 y0 y1 σ = some R) : Ev G M_X8_redate 33 [(0, vr x0), (1, vi x1), (2, vi x2), (3, vi x3)] [vi y0, vr y1] σ (mRsI R.1) R.2 := by
  unfold D_X8_redate_33 at hD
  obtain ⟨_, g0, hD⟩ := bd hD
  obtain ⟨r1, g, hD⟩ := bd hD
  obtain ⟨v2 | e3, s4⟩ := r1
  · refine ew_callV0 (as := [vi y0]) (a := y1) (rest := []) dX8_redate_33 v_X8_needArgument w_714 rfl (Nat.le_of_ble_eq_true rfl) rfl rfl g0 (Nat.le_of_ble_eq_true rfl) (Nat.le_of_ble_eq_true rfl) (ct_X8_needArgument g) ?_
    dsimp only at hD
    refine ev_aload_n dX8_redate_36 0 rfl rfl ?_
    obtain ⟨_, g0, hD⟩ := bd hD
    obtain ⟨r5, g, hD⟩ := bd hD
    refine ew_callV0 (as := []) (a := x0) (rest := []) dX8_redate_37 v_X8_keepForUndo w_956 rfl (Nat.le_of_ble_eq_true rfl) rfl rfl g0 (Nat.le_of_ble_eq_true rfl) (Nat.le_of_ble_eq_true rfl) (ct_X8_keepForUndo g) ?_
    refine ev_aload_n dX8_redate_40 0 rfl rfl ?_
    obtain ⟨v6, g, hD⟩ := bd hD
    refine ew_getR 7 1 dX8_redate_41 rfl (Nat.le_of_ble_eq_true rfl) w_591 in_X8 rfl g ?_
    obtain ⟨v7, g, hD⟩ := bd hD
    refine ew_getR 5 8 dX8_redate_44 rfl (Nat.le_of_ble_eq_true rfl) w_296 in_X5 rfl g ?_
    refine ev_iload_n dX8_redate_47 1 rfl rfl ?_
    obtain ⟨v8, g, hD⟩ := bd hD
    refine ew_aald dX8_redate_48 g ?_
    refine ev_astore dX8_redate_49 (Nat.le_of_ble_eq_true rfl) rfl ?_
    refine ev_aload dX8_redate_51 0 rfl ?_
    obtain ⟨v9, g, hD⟩ := bd hD
    refine ew_getI 4 0 dX8_redate_53 rfl (Nat.le_of_ble_eq_true rfl) w_176 in_X4 rfl g ?_
    by_cases c : v9 = 0
    · rw [if_pos c] at hD
      refine ev_if_eq_t (tgt := 63) dX8_redate_56 (by decide) c ?_
      refine ev_iconst dX8_redate_63 (mi_c rfl) ?_
      refine Ev.pick [1, 3, 4, 0] rfl ?_
      exact lk_X8_redate_64 hD
    · rw [if_neg c] at hD
      refine ev_if_eq_f 63 dX8_redate_56 (by decide) c ?_
      refine ev_iconst dX8_redate_59 (mi_c rfl) ?_
      refine ev_goto (tgt := 64) dX8_redate_60 (by decide) ?_
      refine Ev.pick [1, 3, 4, 0] rfl ?_
      exact lk_X8_redate_64 hD
  · cases hD
    exact ev_thrV (as := [vi y0]) (a := y1) (rest := []) dX8_redate_33 v_X8_needArgument w_714 rfl (Nat.le_of_ble_eq_true rfl) rfl rfl (tgO_s g0) (Nat.le_of_ble_eq_true rfl) (Nat.le_of_ble_eq_true rfl) rfl (ct_X8_needArgument g)
def D_X8_redate_32 (x0 : Nat) (x1 : Int) (x2 : Int) (x3 : Int) (y0 : Nat) (σ : mS) : Option ((Int ⊕ Nat) × mS) :=
  D_X8_redate_33 x0 x1 x2 x3 0 y0 σ
set_option maxRecDepth 100000 in
set_option maxHeartbeats 4000000 in
theorem lk_X8_redate_32 {G : mG} {x0 : Nat} {x1 : Int} {x2 : Int} {x3 : Int} {y0 : Nat} {σ : mS} {R : ((Int ⊕ Nat) × mS)} (hD : D_X8_redate_32 x0 x1 x2 x3 y0 σ = some R) : Ev G M_X8_redate 32 [(0, vr x0), (1, vi x1), (2, vi x2), (3, vi x3)] [vr y0] σ (mRsI R.1) R.2 := by
  unfold D_X8_redate_32 at hD
  refine ev_iconst dX8_redate_32 (mi_c rfl) ?_
  exact lk_X8_redate_33 hD
def D_X8_redate (x0 : Nat) (x1 : Int) (x2 : Int) (x3 : Int) (σ : mS) : Option ((Int ⊕ Nat) × mS) :=
  (tgO σ x0 7).bind fun _ =>
  (D_X8_needSample x0 x1 σ).bind fun r1 =>
  match r1 with
  | (Sum.inl _, s4) =>
    if x2 < 0 then
      D_X8_redate_32 x0 x1 x2 x3 x0 s4
    else
      if 9999 < x2 then
        D_X8_redate_32 x0 x1 x2 x3 x0 s4
      else
        if x3 < 0 then
          D_X8_redate_32 x0 x1 x2 x3 x0 s4
        else
          if 999 < x3 then
            D_X8_redate_32 x0 x1 x2 x3 x0 s4
          else
            D_X8_redate_33 x0 x1 x2 x3 1 x0 s4
  | (Sum.inr e3, s4) => some (Sum.inr e3, s4)
set_option maxRecDepth 100000 in
set_option maxHeartbeats 4000000 in
theorem lk_X8_redate {G : mG} {x0 : Nat} {x1 : Int} {x2 : Int} {x3 : Int} {σ : mS} {R : ((Int ⊕ Nat) × mS)} (hD : D_X8_redate x0 x1 x2 x3 σ = some R) : Ev G M_X8_redate 0 [(0, vr x0), (1, vi x1), (2, vi x2), (3, vi x3)] [] σ (mRsI R.1) R.2 := by
  unfold D_X8_redate at hD
  refine ev_aload_n dX8_redate_0 0 rfl rfl ?_
  refine ev_iload_n dX8_redate_1 1 rfl rfl ?_
  obtain ⟨_, g0, hD⟩ := bd hD
  obtain ⟨r1, g, hD⟩ := bd hD
  obtain ⟨v2 | e3, s4⟩ := r1
  · refine ew_callV0 (as := [vi x1]) (a := x0) (rest := []) dX8_redate_2 v_X8_needSample w_968 rfl (Nat.le_of_ble_eq_true rfl) rfl rfl g0 (Nat.le_of_ble_eq_true rfl) (Nat.le_of_ble_eq_true rfl) (ct_X8_needSample g) ?_
    dsimp only at hD
    refine ev_aload_n dX8_redate_5 0 rfl rfl ?_
    refine ev_iload_n dX8_redate_6 2 rfl rfl ?_
    by_cases c : x2 < 0
    · rw [if_pos c] at hD
      refine ev_if_lt_t (tgt := 32) dX8_redate_7 (by decide) c ?_
      exact lk_X8_redate_32 hD
    · rw [if_neg c] at hD
      refine ev_if_lt_f 32 dX8_redate_7 (by decide) c ?_
      refine ev_iload_n dX8_redate_10 2 rfl rfl ?_
      refine ev_sp dX8_redate_11 rfl ?_
      by_cases c : 9999 < x2
      · rw [if_pos c] at hD
        refine ev_icmp_gt_t (tgt := 32) dX8_redate_14 (by decide) c ?_
        exact lk_X8_redate_32 hD
      · rw [if_neg c] at hD
        refine ev_icmp_gt_f 32 dX8_redate_14 (by decide) c ?_
        refine ev_iload_n dX8_redate_17 3 rfl rfl ?_
        by_cases c : x3 < 0
        · rw [if_pos c] at hD
          refine ev_if_lt_t (tgt := 32) dX8_redate_18 (by decide) c ?_
          exact lk_X8_redate_32 hD
        · rw [if_neg c] at hD
          refine ev_if_lt_f 32 dX8_redate_18 (by decide) c ?_
          refine ev_iload_n dX8_redate_21 3 rfl rfl ?_
          refine ev_sp dX8_redate_22 rfl ?_
          by_cases c : 999 < x3
          · rw [if_pos c] at hD
            refine ev_icmp_gt_t (tgt := 32) dX8_redate_25 (by decide) c ?_
            exact lk_X8_redate_32 hD
          · rw [if_neg c] at hD
            refine ev_icmp_gt_f 32 dX8_redate_25 (by decide) c ?_
            refine ev_iconst dX8_redate_28 (mi_c rfl) ?_
            refine ev_goto (tgt := 33) dX8_redate_29 (by decide) ?_
            exact lk_X8_redate_33 hD
  · cases hD
    exact ev_thrV (as := [vi x1]) (a := x0) (rest := []) dX8_redate_2 v_X8_needSample w_968 rfl (Nat.le_of_ble_eq_true rfl) rfl rfl (tgO_s g0) (Nat.le_of_ble_eq_true rfl) (Nat.le_of_ble_eq_true rfl) rfl (ct_X8_needSample g)
theorem ct_X8_redate {G : mG} {x0 : Nat} {x1 : Int} {x2 : Int} {x3 : Int} {σ : mS} {R : ((Int ⊕ Nat) × mS)} (hD : D_X8_redate x0 x1 x2 x3 σ = some R) : Ct G M_X8_redate [vr x0, vi x1, vi x2, vi x3] σ (mRsI R.1) R.2 := ct_of rfl (by decide +kernel) rfl (Nat.le_of_ble_eq_true rfl) rfl (lk_X8_redate hD)
def D_X8_needRoomForRule (x0 : Nat) (σ : mS) : Option ((Unit ⊕ Nat) × mS) :=
  (gR σ x0 7 1).bind fun v1 =>
  (gI σ v1 5 5).bind fun v2 =>
  if v2 < 24 then
    some (Sum.inl (), σ)
  else
    (gR σ x0 7 7).bind fun v3 =>
    (lI σ v3 2).bind fun v4 =>
    (sI σ v3 2 (mw (v4 + 1))).bind fun s5 =>
    some (Sum.inr 2, mExc s5)
set_option maxRecDepth 100000 in
set_option maxHeartbeats 4000000 in
theorem lk_X8_needRoomForRule {G : mG} {x0 : Nat} {σ : mS} {R : ((Unit ⊕ Nat) × mS)} (hD : D_X8_needRoomForRule x0 σ = some R) : Ev G M_X8_needRoomForRule 0 [(0, vr x0)] [] σ (mRsU R.1) R.2 := by
  unfold D_X8_needRoomForRule at hD
  refine ev_aload_n dX8_needRoomForRule_0 0 rfl rfl ?_
  obtain ⟨v1, g, hD⟩ := bd hD
  refine ew_getR 7 1 dX8_needRoomForRule_1 rfl (Nat.le_of_ble_eq_true rfl) w_591 in_X8 rfl g ?_
  obtain ⟨v2, g, hD⟩ := bd hD
  refine ew_getI 5 5 dX8_needRoomForRule_4 rfl (Nat.le_of_ble_eq_true rfl) w_285 in_X5 rfl g ?_
  refine ev_bp dX8_needRoomForRule_7 rfl ?_
  by_cases c : v2 < 24
  · rw [if_pos c] at hD
    refine ev_icmp_lt_t (tgt := 30) dX8_needRoomForRule_9 (by decide) c ?_
    cases hD
    exact ev_ret none dX8_needRoomForRule_30 True.intro
  · rw [if_neg c] at hD
    refine ev_icmp_lt_f 30 dX8_needRoomForRule_9 (by decide) c ?_
    refine ev_aload_n dX8_needRoomForRule_12 0 rfl rfl ?_
    obtain ⟨v3, g, hD⟩ := bd hD
    refine ew_getR 7 7 dX8_needRoomForRule_13 rfl (Nat.le_of_ble_eq_true rfl) w_597 in_X8 rfl g ?_
    refine ev_iconst dX8_needRoomForRule_16 (mi_c rfl) ?_
    refine ev_dup2 dX8_needRoomForRule_17 rfl rfl ?_
    obtain ⟨v4, g, hD⟩ := bd hD
    refine ew_iald dX8_needRoomForRule_18 g ?_
    refine ev_iconst dX8_needRoomForRule_19 (mi_c rfl) ?_
    refine ev_iadd dX8_needRoomForRule_20 ?_
    obtain ⟨s5, g, hD⟩ := bd hD
    refine ew_iast dX8_needRoomForRule_21 g ?_
    cases hD
    exact ev_throw 2 dX8_needRoomForRule_22 dX8_needRoomForRule_25 dX8_needRoomForRule_26 dX8_needRoomForRule_29 rfl (by decide +kernel) w_1003 w_148 (by decide +kernel) (Nat.le_of_ble_eq_true rfl) (Nat.le_of_ble_eq_true rfl) (Nat.le_of_ble_eq_true rfl)
theorem ct_X8_needRoomForRule {G : mG} {x0 : Nat} {σ : mS} {R : ((Unit ⊕ Nat) × mS)} (hD : D_X8_needRoomForRule x0 σ = some R) : Ct G M_X8_needRoomForRule [vr x0] σ (mRsU R.1) R.2 := ct_of rfl (by decide +kernel) rfl (Nat.le_of_ble_eq_true rfl) rfl (lk_X8_needRoomForRule hD)
def D_X8_before_39 (x0 : Nat) (x1 : Int) (x2 : Int) (x3 : Int) (x4 : Int) (y0 : Int) (y1 : Nat) (σ : mS) : Option ((Int ⊕ Nat) × mS) :=
  (tgO σ y1 7).bind fun _ =>
  (D_X8_needArgument y1 y0 σ).bind fun r1 =>
  match r1 with
  | (Sum.inl _, s4) =>
    (tgO s4 x0 7).bind fun _ =>
    (D_X8_needRoomForRule x0 s4).bind fun r5 =>
    match r5 with
    | (Sum.inl _, s8) =>
      (tgO s8 x0 7).bind fun _ =>
      (D_X8_keepForUndo x0 s8).bind fun r9 =>
      (gR r9 x0 7 1).bind fun v10 =>
      (tgO r9 v10 5).bind fun _ =>
      (D_X5_addRule v10 0 x1 x2 x3 x4 r9).bind fun r11 =>
      (tgO r11 x0 7).bind fun _ =>
      (D_X8_renew x0 r11).bind fun r12 =>
      (gR r12 x0 7 1).bind fun v13 =>
      (gI r12 v13 5 5).bind fun v14 =>
      some (Sum.inl (mw (v14 - 1)), r12)
    | (Sum.inr e7, s8) => some (Sum.inr e7, s8)
  | (Sum.inr e3, s4) => some (Sum.inr e3, s4)
set_option maxRecDepth 100000 in
set_option maxHeartbeats 4000000 in
theorem lk_X8_before_39 {G : mG} {x0 : Nat} {x1 : Int} {x2 : Int} {x3 : Int} {x4 : Int} {y0 : Int} {y1 : Nat} {σ : mS} {R : ((Int ⊕ Nat) × mS)} (hD : D_X8_before_39 x0 x1 x2 x3 x4 y0 y1 σ = some R) : Ev G M_X8_before 39 [(0, vr x0), (1, vi x1), (2, vi x2), (3, vi x3), (4, vi x4)] [vi y0, vr y1] σ (mRsI R.1) R.2 := by
  unfold D_X8_before_39 at hD
  obtain ⟨_, g0, hD⟩ := bd hD
  obtain ⟨r1, g, hD⟩ := bd hD
  obtain ⟨v2 | e3, s4⟩ := r1
  · refine ew_callV0 (as := [vi y0]) (a := y1) (rest := []) dX8_before_39 v_X8_needArgument w_714 rfl (Nat.le_of_ble_eq_true rfl) rfl rfl g0 (Nat.le_of_ble_eq_true rfl) (Nat.le_of_ble_eq_true rfl) (ct_X8_needArgument g) ?_
    dsimp only at hD
    refine ev_aload_n dX8_before_42 0 rfl rfl ?_
    obtain ⟨_, g0, hD⟩ := bd hD
    obtain ⟨r5, g, hD⟩ := bd hD
    obtain ⟨v6 | e7, s8⟩ := r5
    · refine ew_callV0 (as := []) (a := x0) (rest := []) dX8_before_43 v_X8_needRoomForRule w_999 rfl (Nat.le_of_ble_eq_true rfl) rfl rfl g0 (Nat.le_of_ble_eq_true rfl) (Nat.le_of_ble_eq_true rfl) (ct_X8_needRoomForRule g) ?_
      dsimp only at hD
      refine ev_aload_n dX8_before_46 0 rfl rfl ?_
      obtain ⟨_, g0, hD⟩ := bd hD
      obtain ⟨r9, g, hD⟩ := bd hD
      refine ew_callV0 (as := []) (a := x0) (rest := []) dX8_before_47 v_X8_keepForUndo w_956 rfl (Nat.le_of_ble_eq_true rfl) rfl rfl g0 (Nat.le_of_ble_eq_true rfl) (Nat.le_of_ble_eq_true rfl) (ct_X8_keepForUndo g) ?_
      refine ev_aload_n dX8_before_50 0 rfl rfl ?_
      obtain ⟨v10, g, hD⟩ := bd hD
      refine ew_getR 7 1 dX8_before_51 rfl (Nat.le_of_ble_eq_true rfl) w_591 in_X8 rfl g ?_
      refine ev_iconst dX8_before_54 (mi_c rfl) ?_
      refine ev_iload_n dX8_before_55 1 rfl rfl ?_
      refine ev_iload_n dX8_before_56 2 rfl rfl ?_
      refine ev_iload_n dX8_before_57 3 rfl rfl ?_
      refine ev_iload dX8_before_58 4 rfl ?_
      obtain ⟨_, g0, hD⟩ := bd hD
      obtain ⟨r11, g, hD⟩ := bd hD
      refine ew_callV0 (as := [vi 0, vi x1, vi x2, vi x3, vi x4]) (a := v10) (rest := []) dX8_before_60 v_X5_addRule w_1018 rfl (Nat.le_of_ble_eq_true rfl) rfl rfl g0 (Nat.le_of_ble_eq_true rfl) (Nat.le_of_ble_eq_true rfl) (ct_X5_addRule g) ?_
      refine ev_aload_n dX8_before_63 0 rfl rfl ?_
      obtain ⟨_, g0, hD⟩ := bd hD
      obtain ⟨r12, g, hD⟩ := bd hD
      refine ew_callV0 (as := []) (a := x0) (rest := []) dX8_before_64 v_X8_renew w_485 rfl (Nat.le_of_ble_eq_true rfl) rfl rfl g0 (Nat.le_of_ble_eq_true rfl) (Nat.le_of_ble_eq_true rfl) (ct_X8_renew g) ?_
      refine ev_aload_n dX8_before_67 0 rfl rfl ?_
      obtain ⟨v13, g, hD⟩ := bd hD
      refine ew_getR 7 1 dX8_before_68 rfl (Nat.le_of_ble_eq_true rfl) w_591 in_X8 rfl g ?_
      obtain ⟨v14, g, hD⟩ := bd hD
      refine ew_getI 5 5 dX8_before_71 rfl (Nat.le_of_ble_eq_true rfl) w_285 in_X5 rfl g ?_
      refine ev_iconst dX8_before_74 (mi_c rfl) ?_
      refine ev_isub dX8_before_75 ?_
      cases hD
      exact ev_ret (some (vi _)) dX8_before_76 True.intro
    · cases hD
      exact ev_thrV (as := []) (a := x0) (rest := []) dX8_before_43 v_X8_needRoomForRule w_999 rfl (Nat.le_of_ble_eq_true rfl) rfl rfl (tgO_s g0) (Nat.le_of_ble_eq_true rfl) (Nat.le_of_ble_eq_true rfl) rfl (ct_X8_needRoomForRule g)
  · cases hD
    exact ev_thrV (as := [vi y0]) (a := y1) (rest := []) dX8_before_39 v_X8_needArgument w_714 rfl (Nat.le_of_ble_eq_true rfl) rfl rfl (tgO_s g0) (Nat.le_of_ble_eq_true rfl) (Nat.le_of_ble_eq_true rfl) rfl (ct_X8_needArgument g)
def D_X8_before_38 (x0 : Nat) (x1 : Int) (x2 : Int) (x3 : Int) (x4 : Int) (y0 : Nat) (σ : mS) : Option ((Int ⊕ Nat) × mS) :=
  D_X8_before_39 x0 x1 x2 x3 x4 0 y0 σ
set_option maxRecDepth 100000 in
set_option maxHeartbeats 4000000 in
theorem lk_X8_before_38 {G : mG} {x0 : Nat} {x1 : Int} {x2 : Int} {x3 : Int} {x4 : Int} {y0 : Nat} {σ : mS} {R : ((Int ⊕ Nat) × mS)} (hD : D_X8_before_38 x0 x1 x2 x3 x4 y0 σ = some R) : Ev G M_X8_before 38 [(0, vr x0), (1, vi x1), (2, vi x2), (3, vi x3), (4, vi x4)] [vr y0] σ (mRsI R.1) R.2 := by
  unfold D_X8_before_38 at hD
  refine ev_iconst dX8_before_38 (mi_c rfl) ?_
  exact lk_X8_before_39 hD
def D_X8_before (x0 : Nat) (x1 : Int) (x2 : Int) (x3 : Int) (x4 : Int) (σ : mS) : Option ((Int ⊕ Nat) × mS) :=
  (tgO σ x0 7).bind fun _ =>
  (D_X8_needSample x0 x1 σ).bind fun r1 =>
  match r1 with
  | (Sum.inl _, s4) =>
    (tgO s4 x0 7).bind fun _ =>
    (D_X8_needSample x0 x2 s4).bind fun r5 =>
    match r5 with
    | (Sum.inl _, s8) =>
      if x1 = x2 then
        D_X8_before_38 x0 x1 x2 x3 x4 x0 s8
      else
        if x3 < 0 then
          D_X8_before_38 x0 x1 x2 x3 x4 x0 s8
        else
          if x4 < x3 then
            D_X8_before_38 x0 x1 x2 x3 x4 x0 s8
          else
            if 999 < x4 then
              D_X8_before_38 x0 x1 x2 x3 x4 x0 s8
            else
              D_X8_before_39 x0 x1 x2 x3 x4 1 x0 s8
    | (Sum.inr e7, s8) => some (Sum.inr e7, s8)
  | (Sum.inr e3, s4) => some (Sum.inr e3, s4)
set_option maxRecDepth 100000 in
set_option maxHeartbeats 4000000 in
theorem lk_X8_before {G : mG} {x0 : Nat} {x1 : Int} {x2 : Int} {x3 : Int} {x4 : Int} {σ : mS} {R : ((Int ⊕ Nat) × mS)} (hD : D_X8_before x0 x1 x2 x3 x4 σ = some R) : Ev G M_X8_before 0 [(0, vr x0), (1, vi x1), (2, vi x2), (3, vi x3), (4, vi x4)] [] σ (mRsI R.1) R.2 := by
  unfold D_X8_before at hD
  refine ev_aload_n dX8_before_0 0 rfl rfl ?_
  refine ev_iload_n dX8_before_1 1 rfl rfl ?_
  obtain ⟨_, g0, hD⟩ := bd hD
  obtain ⟨r1, g, hD⟩ := bd hD
  obtain ⟨v2 | e3, s4⟩ := r1
  · refine ew_callV0 (as := [vi x1]) (a := x0) (rest := []) dX8_before_2 v_X8_needSample w_968 rfl (Nat.le_of_ble_eq_true rfl) rfl rfl g0 (Nat.le_of_ble_eq_true rfl) (Nat.le_of_ble_eq_true rfl) (ct_X8_needSample g) ?_
    dsimp only at hD
    refine ev_aload_n dX8_before_5 0 rfl rfl ?_
    refine ev_iload_n dX8_before_6 2 rfl rfl ?_
    obtain ⟨_, g0, hD⟩ := bd hD
    obtain ⟨r5, g, hD⟩ := bd hD
    obtain ⟨v6 | e7, s8⟩ := r5
    · refine ew_callV0 (as := [vi x2]) (a := x0) (rest := []) dX8_before_7 v_X8_needSample w_968 rfl (Nat.le_of_ble_eq_true rfl) rfl rfl g0 (Nat.le_of_ble_eq_true rfl) (Nat.le_of_ble_eq_true rfl) (ct_X8_needSample g) ?_
      dsimp only at hD
      refine ev_aload_n dX8_before_10 0 rfl rfl ?_
      refine ev_iload_n dX8_before_11 1 rfl rfl ?_
      refine ev_iload_n dX8_before_12 2 rfl rfl ?_
      by_cases c : x1 = x2
      · rw [if_pos c] at hD
        refine ev_icmp_eq_t (tgt := 38) dX8_before_13 (by decide) c ?_
        exact lk_X8_before_38 hD
      · rw [if_neg c] at hD
        refine ev_icmp_eq_f 38 dX8_before_13 (by decide) c ?_
        refine ev_iload_n dX8_before_16 3 rfl rfl ?_
        by_cases c : x3 < 0
        · rw [if_pos c] at hD
          refine ev_if_lt_t (tgt := 38) dX8_before_17 (by decide) c ?_
          exact lk_X8_before_38 hD
        · rw [if_neg c] at hD
          refine ev_if_lt_f 38 dX8_before_17 (by decide) c ?_
          refine ev_iload_n dX8_before_20 3 rfl rfl ?_
          refine ev_iload dX8_before_21 4 rfl ?_
          by_cases c : x4 < x3
          · rw [if_pos c] at hD
            refine ev_icmp_gt_t (tgt := 38) dX8_before_23 (by decide) c ?_
            exact lk_X8_before_38 hD
          · rw [if_neg c] at hD
            refine ev_icmp_gt_f 38 dX8_before_23 (by decide) c ?_
            refine ev_iload dX8_before_26 4 rfl ?_
            refine ev_sp dX8_before_28 rfl ?_
            by_cases c : 999 < x4
            · rw [if_pos c] at hD
              refine ev_icmp_gt_t (tgt := 38) dX8_before_31 (by decide) c ?_
              exact lk_X8_before_38 hD
            · rw [if_neg c] at hD
              refine ev_icmp_gt_f 38 dX8_before_31 (by decide) c ?_
              refine ev_iconst dX8_before_34 (mi_c rfl) ?_
              refine ev_goto (tgt := 39) dX8_before_35 (by decide) ?_
              exact lk_X8_before_39 hD
    · cases hD
      exact ev_thrV (as := [vi x2]) (a := x0) (rest := []) dX8_before_7 v_X8_needSample w_968 rfl (Nat.le_of_ble_eq_true rfl) rfl rfl (tgO_s g0) (Nat.le_of_ble_eq_true rfl) (Nat.le_of_ble_eq_true rfl) rfl (ct_X8_needSample g)
  · cases hD
    exact ev_thrV (as := [vi x1]) (a := x0) (rest := []) dX8_before_2 v_X8_needSample w_968 rfl (Nat.le_of_ble_eq_true rfl) rfl rfl (tgO_s g0) (Nat.le_of_ble_eq_true rfl) (Nat.le_of_ble_eq_true rfl) rfl (ct_X8_needSample g)
theorem ct_X8_before {G : mG} {x0 : Nat} {x1 : Int} {x2 : Int} {x3 : Int} {x4 : Int} {σ : mS} {R : ((Int ⊕ Nat) × mS)} (hD : D_X8_before x0 x1 x2 x3 x4 σ = some R) : Ct G M_X8_before [vr x0, vi x1, vi x2, vi x3, vi x4] σ (mRsI R.1) R.2 := ct_of rfl (by decide +kernel) rfl (Nat.le_of_ble_eq_true rfl) rfl (lk_X8_before hD)
def D_X8_isYear_16 (y0 : Int) (σ : mS) : Option Int :=
  (bO y0).bind fun v1 =>
  some v1
set_option maxRecDepth 100000 in
set_option maxHeartbeats 4000000 in
theorem lk_X8_isYear_16 {G : mG} {y0 : Int} {σ : mS} {R : Int} (hD : D_X8_isYear_16 y0 σ = some R) : Ev G M_X8_isYear 16 [] [vi y0] σ (.inl (some (vi R))) σ := by
  unfold D_X8_isYear_16 at hD
  obtain ⟨v1, gb, hD⟩ := bd hD
  cases hD
  exact ew_retb dX8_isYear_16 rfl gb
def D_X8_isYear_15 (σ : mS) : Option Int :=
  D_X8_isYear_16 0 σ
set_option maxRecDepth 100000 in
set_option maxHeartbeats 4000000 in
theorem lk_X8_isYear_15 {G : mG} {σ : mS} {R : Int} (hD : D_X8_isYear_15  σ = some R) : Ev G M_X8_isYear 15 [] [] σ (.inl (some (vi R))) σ := by
  unfold D_X8_isYear_15 at hD
  refine ev_iconst dX8_isYear_15 (mi_c rfl) ?_
  exact lk_X8_isYear_16 hD
def D_X8_isYear (x0 : Int) (σ : mS) : Option Int :=
  if x0 < 0 then
    D_X8_isYear_15  σ
  else
    if 1000 ≤ x0 then
      D_X8_isYear_15  σ
    else
      D_X8_isYear_16 1 σ
set_option maxRecDepth 100000 in
set_option maxHeartbeats 4000000 in
theorem lk_X8_isYear {G : mG} {x0 : Int} {σ : mS} {R : Int} (hD : D_X8_isYear x0 σ = some R) : Ev G M_X8_isYear 0 [(0, vi x0)] [] σ (.inl (some (vi R))) σ := by
  unfold D_X8_isYear at hD
  refine ev_iload_n dX8_isYear_0 0 rfl rfl ?_
  by_cases c : x0 < 0
  · rw [if_pos c] at hD
    refine ev_if_lt_t (tgt := 15) dX8_isYear_1 (by decide) c ?_
    refine Ev.pick [] rfl ?_
    exact lk_X8_isYear_15 hD
  · rw [if_neg c] at hD
    refine ev_if_lt_f 15 dX8_isYear_1 (by decide) c ?_
    refine ev_iload_n dX8_isYear_4 0 rfl rfl ?_
    refine ev_sp dX8_isYear_5 rfl ?_
    by_cases c : 1000 ≤ x0
    · rw [if_pos c] at hD
      refine ev_icmp_ge_t (tgt := 15) dX8_isYear_8 (by decide) c ?_
      refine Ev.pick [] rfl ?_
      exact lk_X8_isYear_15 hD
    · rw [if_neg c] at hD
      refine ev_icmp_ge_f 15 dX8_isYear_8 (by decide) c ?_
      refine ev_iconst dX8_isYear_11 (mi_c rfl) ?_
      refine ev_goto (tgt := 16) dX8_isYear_12 (by decide) ?_
      refine Ev.pick [] rfl ?_
      exact lk_X8_isYear_16 hD
theorem ct_X8_isYear {G : mG} {x0 : Int} {σ : mS} {R : Int} (hD : D_X8_isYear x0 σ = some R) : Ct G M_X8_isYear [vi x0] σ (.inl (some (vi R))) σ := ct_of rfl (by decide +kernel) rfl (Nat.le_of_ble_eq_true rfl) rfl (lk_X8_isYear hD)
def D_X8_bounds_28 (x0 : Nat) (x1 : Int) (x2 : Int) (x3 : Int) (y0 : Int) (y1 : Nat) (σ : mS) : Option ((Int ⊕ Nat) × mS) :=
  (tgO σ y1 7).bind fun _ =>
  (D_X8_needArgument y1 y0 σ).bind fun r1 =>
  match r1 with
  | (Sum.inl _, s4) =>
    (tgO s4 x0 7).bind fun _ =>
    (D_X8_needRoomForRule x0 s4).bind fun r5 =>
    match r5 with
    | (Sum.inl _, s8) =>
      (tgO s8 x0 7).bind fun _ =>
      (D_X8_keepForUndo x0 s8).bind fun r9 =>
      (gR r9 x0 7 1).bind fun v10 =>
      (tgO r9 v10 5).bind fun _ =>
      (D_X5_addRule v10 x2 x1 ((-1)) x3 ((-1)) r9).bind fun r11 =>
      (tgO r11 x0 7).bind fun _ =>
      (D_X8_renew x0 r11).bind fun r12 =>
      (gR r12 x0 7 1).bind fun v13 =>
      (gI r12 v13 5 5).bind fun v14 =>
      some (Sum.inl (mw (v14 - 1)), r12)
    | (Sum.inr e7, s8) => some (Sum.inr e7, s8)
  | (Sum.inr e3, s4) => some (Sum.inr e3, s4)
set_option maxRecDepth 100000 in
set_option maxHeartbeats 4000000 in
theorem lk_X8_bounds_28 {G : mG} {x0 : Nat} {x1 : Int} {x2 : Int} {x3 : Int} {y0 : Int} {y1 : Nat} {σ : mS} {R : ((Int ⊕ Nat) × mS)} (hD : D_X8_bounds_28 x0 x1 x2 x3 y0 y1 σ = some R) : Ev G M_X8_bounds 28 [(0, vr x0), (1, vi x1), (2, vi x2), (3, vi x3)] [vi y0, vr y1] σ (mRsI R.1) R.2 := by
  unfold D_X8_bounds_28 at hD
  obtain ⟨_, g0, hD⟩ := bd hD
  obtain ⟨r1, g, hD⟩ := bd hD
  obtain ⟨v2 | e3, s4⟩ := r1
  · refine ew_callV0 (as := [vi y0]) (a := y1) (rest := []) dX8_bounds_28 v_X8_needArgument w_714 rfl (Nat.le_of_ble_eq_true rfl) rfl rfl g0 (Nat.le_of_ble_eq_true rfl) (Nat.le_of_ble_eq_true rfl) (ct_X8_needArgument g) ?_
    dsimp only at hD
    refine ev_aload_n dX8_bounds_31 0 rfl rfl ?_
    obtain ⟨_, g0, hD⟩ := bd hD
    obtain ⟨r5, g, hD⟩ := bd hD
    obtain ⟨v6 | e7, s8⟩ := r5
    · refine ew_callV0 (as := []) (a := x0) (rest := []) dX8_bounds_32 v_X8_needRoomForRule w_999 rfl (Nat.le_of_ble_eq_true rfl) rfl rfl g0 (Nat.le_of_ble_eq_true rfl) (Nat.le_of_ble_eq_true rfl) (ct_X8_needRoomForRule g) ?_
      dsimp only at hD
      refine ev_aload_n dX8_bounds_35 0 rfl rfl ?_
      obtain ⟨_, g0, hD⟩ := bd hD
      obtain ⟨r9, g, hD⟩ := bd hD
      refine ew_callV0 (as := []) (a := x0) (rest := []) dX8_bounds_36 v_X8_keepForUndo w_956 rfl (Nat.le_of_ble_eq_true rfl) rfl rfl g0 (Nat.le_of_ble_eq_true rfl) (Nat.le_of_ble_eq_true rfl) (ct_X8_keepForUndo g) ?_
      refine ev_aload_n dX8_bounds_39 0 rfl rfl ?_
      obtain ⟨v10, g, hD⟩ := bd hD
      refine ew_getR 7 1 dX8_bounds_40 rfl (Nat.le_of_ble_eq_true rfl) w_591 in_X8 rfl g ?_
      refine ev_iload_n dX8_bounds_43 2 rfl rfl ?_
      refine ev_iload_n dX8_bounds_44 1 rfl rfl ?_
      refine ev_iconst dX8_bounds_45 (mi_c rfl) ?_
      refine ev_iload_n dX8_bounds_46 3 rfl rfl ?_
      refine ev_iconst dX8_bounds_47 (mi_c rfl) ?_
      obtain ⟨_, g0, hD⟩ := bd hD
      obtain ⟨r11, g, hD⟩ := bd hD
      refine ew_callV0 (as := [vi x2, vi x1, vi ((-1)), vi x3, vi ((-1))]) (a := v10) (rest := []) dX8_bounds_48 v_X5_addRule w_1018 rfl (Nat.le_of_ble_eq_true rfl) rfl rfl g0 (Nat.le_of_ble_eq_true rfl) (Nat.le_of_ble_eq_true rfl) (ct_X5_addRule g) ?_
      refine ev_aload_n dX8_bounds_51 0 rfl rfl ?_
      obtain ⟨_, g0, hD⟩ := bd hD
      obtain ⟨r12, g, hD⟩ := bd hD
      refine ew_callV0 (as := []) (a := x0) (rest := []) dX8_bounds_52 v_X8_renew w_485 rfl (Nat.le_of_ble_eq_true rfl) rfl rfl g0 (Nat.le_of_ble_eq_true rfl) (Nat.le_of_ble_eq_true rfl) (ct_X8_renew g) ?_
      refine ev_aload_n dX8_bounds_55 0 rfl rfl ?_
      obtain ⟨v13, g, hD⟩ := bd hD
      refine ew_getR 7 1 dX8_bounds_56 rfl (Nat.le_of_ble_eq_true rfl) w_591 in_X8 rfl g ?_
      obtain ⟨v14, g, hD⟩ := bd hD
      refine ew_getI 5 5 dX8_bounds_59 rfl (Nat.le_of_ble_eq_true rfl) w_285 in_X5 rfl g ?_
      refine ev_iconst dX8_bounds_62 (mi_c rfl) ?_
      refine ev_isub dX8_bounds_63 ?_
      cases hD
      exact ev_ret (some (vi _)) dX8_bounds_64 True.intro
    · cases hD
      exact ev_thrV (as := []) (a := x0) (rest := []) dX8_bounds_32 v_X8_needRoomForRule w_999 rfl (Nat.le_of_ble_eq_true rfl) rfl rfl (tgO_s g0) (Nat.le_of_ble_eq_true rfl) (Nat.le_of_ble_eq_true rfl) rfl (ct_X8_needRoomForRule g)
  · cases hD
    exact ev_thrV (as := [vi y0]) (a := y1) (rest := []) dX8_bounds_28 v_X8_needArgument w_714 rfl (Nat.le_of_ble_eq_true rfl) rfl rfl (tgO_s g0) (Nat.le_of_ble_eq_true rfl) (Nat.le_of_ble_eq_true rfl) rfl (ct_X8_needArgument g)
def D_X8_bounds_27 (x0 : Nat) (x1 : Int) (x2 : Int) (x3 : Int) (y0 : Nat) (σ : mS) : Option ((Int ⊕ Nat) × mS) :=
  D_X8_bounds_28 x0 x1 x2 x3 0 y0 σ
set_option maxRecDepth 100000 in
set_option maxHeartbeats 4000000 in
theorem lk_X8_bounds_27 {G : mG} {x0 : Nat} {x1 : Int} {x2 : Int} {x3 : Int} {y0 : Nat} {σ : mS} {R : ((Int ⊕ Nat) × mS)} (hD : D_X8_bounds_27 x0 x1 x2 x3 y0 σ = some R) : Ev G M_X8_bounds 27 [(0, vr x0), (1, vi x1), (2, vi x2), (3, vi x3)] [vr y0] σ (mRsI R.1) R.2 := by
  unfold D_X8_bounds_27 at hD
  refine ev_iconst dX8_bounds_27 (mi_c rfl) ?_
  exact lk_X8_bounds_28 hD
def D_X8_bounds_16 (x0 : Nat) (x1 : Int) (x2 : Int) (x3 : Int) (y0 : Nat) (σ : mS) : Option ((Int ⊕ Nat) × mS) :=
  (D_X8_isYear x3 σ).bind fun r1 =>
  if r1 = 0 then
    D_X8_bounds_27 x0 x1 x2 x3 y0 σ
  else
    D_X8_bounds_28 x0 x1 x2 x3 1 y0 σ
set_option maxRecDepth 100000 in
set_option maxHeartbeats 4000000 in
theorem lk_X8_bounds_16 {G : mG} {x0 : Nat} {x1 : Int} {x2 : Int} {x3 : Int} {y0 : Nat} {σ : mS} {R : ((Int ⊕ Nat) × mS)} (hD : D_X8_bounds_16 x0 x1 x2 x3 y0 σ = some R) : Ev G M_X8_bounds 16 [(0, vr x0), (1, vi x1), (2, vi x2), (3, vi x3)] [vr y0] σ (mRsI R.1) R.2 := by
  unfold D_X8_bounds_16 at hD
  refine ev_iload_n dX8_bounds_16 3 rfl rfl ?_
  obtain ⟨r1, g, hD⟩ := bd hD
  refine ew_callSv (as := [vi x3]) (rest := [vr y0]) dX8_bounds_17 v_X8_isYear w_1026 rfl (Nat.le_of_ble_eq_true rfl) (Nat.le_of_ble_eq_true rfl) (Nat.le_of_ble_eq_true rfl) (ct_X8_isYear g) ?_
  by_cases c : r1 = 0
  · rw [if_pos c] at hD
    refine ev_if_eq_t (tgt := 27) dX8_bounds_20 (by decide) c ?_
    exact lk_X8_bounds_27 hD
  · rw [if_neg c] at hD
    refine ev_if_eq_f 27 dX8_bounds_20 (by decide) c ?_
    refine ev_iconst dX8_bounds_23 (mi_c rfl) ?_
    refine ev_goto (tgt := 28) dX8_bounds_24 (by decide) ?_
    exact lk_X8_bounds_28 hD
def D_X8_bounds (x0 : Nat) (x1 : Int) (x2 : Int) (x3 : Int) (σ : mS) : Option ((Int ⊕ Nat) × mS) :=
  (tgO σ x0 7).bind fun _ =>
  (D_X8_needSample x0 x1 σ).bind fun r1 =>
  match r1 with
  | (Sum.inl _, s4) =>
    if x2 = 2 then
      D_X8_bounds_16 x0 x1 x2 x3 x0 s4
    else
      if x2 ≠ 3 then
        D_X8_bounds_27 x0 x1 x2 x3 x0 s4
      else
        D_X8_bounds_16 x0 x1 x2 x3 x0 s4
  | (Sum.inr e3, s4) => some (Sum.inr e3, s4)
set_option maxRecDepth 100000 in
set_option maxHeartbeats 4000000 in
theorem lk_X8_bounds {G : mG} {x0 : Nat} {x1 : Int} {x2 : Int} {x3 : Int} {σ : mS} {R : ((Int ⊕ Nat) × mS)} (hD : D_X8_bounds x0 x1 x2 x3 σ = some R) : Ev G M_X8_bounds 0 [(0, vr x0), (1, vi x1), (2, vi x2), (3, vi x3)] [] σ (mRsI R.1) R.2 := by
  unfold D_X8_bounds at hD
  refine ev_aload_n dX8_bounds_0 0 rfl rfl ?_
  refine ev_iload_n dX8_bounds_1 1 rfl rfl ?_
  obtain ⟨_, g0, hD⟩ := bd hD
  obtain ⟨r1, g, hD⟩ := bd hD
  obtain ⟨v2 | e3, s4⟩ := r1
  · refine ew_callV0 (as := [vi x1]) (a := x0) (rest := []) dX8_bounds_2 v_X8_needSample w_968 rfl (Nat.le_of_ble_eq_true rfl) rfl rfl g0 (Nat.le_of_ble_eq_true rfl) (Nat.le_of_ble_eq_true rfl) (ct_X8_needSample g) ?_
    dsimp only at hD
    refine ev_aload_n dX8_bounds_5 0 rfl rfl ?_
    refine ev_iload_n dX8_bounds_6 2 rfl rfl ?_
    refine ev_iconst dX8_bounds_7 (mi_c rfl) ?_
    by_cases c : x2 = 2
    · rw [if_pos c] at hD
      refine ev_icmp_eq_t (tgt := 16) dX8_bounds_8 (by decide) c ?_
      exact lk_X8_bounds_16 hD
    · rw [if_neg c] at hD
      refine ev_icmp_eq_f 16 dX8_bounds_8 (by decide) c ?_
      refine ev_iload_n dX8_bounds_11 2 rfl rfl ?_
      refine ev_iconst dX8_bounds_12 (mi_c rfl) ?_
      by_cases c : x2 ≠ 3
      · rw [if_pos c] at hD
        refine ev_icmp_ne_t (tgt := 27) dX8_bounds_13 (by decide) c ?_
        exact lk_X8_bounds_27 hD
      · rw [if_neg c] at hD
        refine ev_icmp_ne_f 27 dX8_bounds_13 (by decide) c ?_
        exact lk_X8_bounds_16 hD
  · cases hD
    exact ev_thrV (as := [vi x1]) (a := x0) (rest := []) dX8_bounds_2 v_X8_needSample w_968 rfl (Nat.le_of_ble_eq_true rfl) rfl rfl (tgO_s g0) (Nat.le_of_ble_eq_true rfl) (Nat.le_of_ble_eq_true rfl) rfl (ct_X8_needSample g)
theorem ct_X8_bounds {G : mG} {x0 : Nat} {x1 : Int} {x2 : Int} {x3 : Int} {σ : mS} {R : ((Int ⊕ Nat) × mS)} (hD : D_X8_bounds x0 x1 x2 x3 σ = some R) : Ct G M_X8_bounds [vr x0, vi x1, vi x2, vi x3] σ (mRsI R.1) R.2 := ct_of rfl (by decide +kernel) rfl (Nat.le_of_ble_eq_true rfl) rfl (lk_X8_bounds hD)
def D_X8_needRule_21 (y0 : Int) (y1 : Nat) (σ : mS) : Option ((Unit ⊕ Nat) × mS) :=
  (tgO σ y1 7).bind fun _ =>
  (D_X8_needThere y1 y0 σ).bind fun r1 =>
  match r1 with
  | (Sum.inl _, s4) =>
    some (Sum.inl (), s4)
  | (Sum.inr e3, s4) => some (Sum.inr e3, s4)
set_option maxRecDepth 100000 in
set_option maxHeartbeats 4000000 in
theorem lk_X8_needRule_21 {G : mG} {y0 : Int} {y1 : Nat} {σ : mS} {R : ((Unit ⊕ Nat) × mS)} (hD : D_X8_needRule_21 y0 y1 σ = some R) : Ev G M_X8_needRule 21 [] [vi y0, vr y1] σ (mRsU R.1) R.2 := by
  unfold D_X8_needRule_21 at hD
  obtain ⟨_, g0, hD⟩ := bd hD
  obtain ⟨r1, g, hD⟩ := bd hD
  obtain ⟨v2 | e3, s4⟩ := r1
  · refine ew_callV0 (as := [vi y0]) (a := y1) (rest := []) dX8_needRule_21 v_X8_needThere w_972 rfl (Nat.le_of_ble_eq_true rfl) rfl rfl g0 (Nat.le_of_ble_eq_true rfl) (Nat.le_of_ble_eq_true rfl) (ct_X8_needThere g) ?_
    dsimp only at hD
    cases hD
    exact ev_ret none dX8_needRule_24 True.intro
  · cases hD
    exact ev_thrV (as := [vi y0]) (a := y1) (rest := []) dX8_needRule_21 v_X8_needThere w_972 rfl (Nat.le_of_ble_eq_true rfl) rfl rfl (tgO_s g0) (Nat.le_of_ble_eq_true rfl) (Nat.le_of_ble_eq_true rfl) rfl (ct_X8_needThere g)
def D_X8_needRule_20 (y0 : Nat) (σ : mS) : Option ((Unit ⊕ Nat) × mS) :=
  D_X8_needRule_21 0 y0 σ
set_option maxRecDepth 100000 in
set_option maxHeartbeats 4000000 in
theorem lk_X8_needRule_20 {G : mG} {y0 : Nat} {σ : mS} {R : ((Unit ⊕ Nat) × mS)} (hD : D_X8_needRule_20 y0 σ = some R) : Ev G M_X8_needRule 20 [] [vr y0] σ (mRsU R.1) R.2 := by
  unfold D_X8_needRule_20 at hD
  refine ev_iconst dX8_needRule_20 (mi_c rfl) ?_
  exact lk_X8_needRule_21 hD
def D_X8_needRule (x0 : Nat) (x1 : Int) (σ : mS) : Option ((Unit ⊕ Nat) × mS) :=
  if x1 < 0 then
    D_X8_needRule_20 x0 σ
  else
    (gR σ x0 7 1).bind fun v1 =>
    (gI σ v1 5 5).bind fun v2 =>
    if v2 ≤ x1 then
      D_X8_needRule_20 x0 σ
    else
      D_X8_needRule_21 1 x0 σ
set_option maxRecDepth 100000 in
set_option maxHeartbeats 4000000 in
theorem lk_X8_needRule {G : mG} {x0 : Nat} {x1 : Int} {σ : mS} {R : ((Unit ⊕ Nat) × mS)} (hD : D_X8_needRule x0 x1 σ = some R) : Ev G M_X8_needRule 0 [(0, vr x0), (1, vi x1)] [] σ (mRsU R.1) R.2 := by
  unfold D_X8_needRule at hD
  refine ev_aload_n dX8_needRule_0 0 rfl rfl ?_
  refine ev_iload_n dX8_needRule_1 1 rfl rfl ?_
  by_cases c : x1 < 0
  · rw [if_pos c] at hD
    refine ev_if_lt_t (tgt := 20) dX8_needRule_2 (by decide) c ?_
    refine Ev.pick [] rfl ?_
    exact lk_X8_needRule_20 hD
  · rw [if_neg c] at hD
    refine ev_if_lt_f 20 dX8_needRule_2 (by decide) c ?_
    refine ev_iload_n dX8_needRule_5 1 rfl rfl ?_
    refine ev_aload_n dX8_needRule_6 0 rfl rfl ?_
    obtain ⟨v1, g, hD⟩ := bd hD
    refine ew_getR 7 1 dX8_needRule_7 rfl (Nat.le_of_ble_eq_true rfl) w_591 in_X8 rfl g ?_
    obtain ⟨v2, g, hD⟩ := bd hD
    refine ew_getI 5 5 dX8_needRule_10 rfl (Nat.le_of_ble_eq_true rfl) w_285 in_X5 rfl g ?_
    by_cases c : v2 ≤ x1
    · rw [if_pos c] at hD
      refine ev_icmp_ge_t (tgt := 20) dX8_needRule_13 (by decide) c ?_
      refine Ev.pick [] rfl ?_
      exact lk_X8_needRule_20 hD
    · rw [if_neg c] at hD
      refine ev_icmp_ge_f 20 dX8_needRule_13 (by decide) c ?_
      refine ev_iconst dX8_needRule_16 (mi_c rfl) ?_
      refine ev_goto (tgt := 21) dX8_needRule_17 (by decide) ?_
      refine Ev.pick [] rfl ?_
      exact lk_X8_needRule_21 hD
theorem ct_X8_needRule {G : mG} {x0 : Nat} {x1 : Int} {σ : mS} {R : ((Unit ⊕ Nat) × mS)} (hD : D_X8_needRule x0 x1 σ = some R) : Ct G M_X8_needRule [vr x0, vi x1] σ (mRsU R.1) R.2 := ct_of rfl (by decide +kernel) rfl (Nat.le_of_ble_eq_true rfl) rfl (lk_X8_needRule hD)
def D_X8_drop (x0 : Nat) (x1 : Int) (σ : mS) : Option ((Int ⊕ Nat) × mS) :=
  (tgO σ x0 7).bind fun _ =>
  (D_X8_needRule x0 x1 σ).bind fun r1 =>
  match r1 with
  | (Sum.inl _, s4) =>
    (gR s4 x0 7 9).bind fun v5 =>
    (gR s4 v5 0 7).bind fun v6 =>
    (lI s4 v6 x1).bind fun v7 =>
    (tgO s4 x0 7).bind fun _ =>
    (D_X8_keepForUndo x0 s4).bind fun r8 =>
    (gR r8 x0 7 1).bind fun v9 =>
    (tgO r8 v9 5).bind fun _ =>
    (D_X5_dropRule v9 x1 r8).bind fun r10 =>
    (tgO r10 x0 7).bind fun _ =>
    (D_X8_renew x0 r10).bind fun r11 =>
    some (Sum.inl v7, r11)
  | (Sum.inr e3, s4) => some (Sum.inr e3, s4)
set_option maxRecDepth 100000 in
set_option maxHeartbeats 4000000 in
theorem lk_X8_drop {G : mG} {x0 : Nat} {x1 : Int} {σ : mS} {R : ((Int ⊕ Nat) × mS)} (hD : D_X8_drop x0 x1 σ = some R) : Ev G M_X8_drop 0 [(0, vr x0), (1, vi x1)] [] σ (mRsI R.1) R.2 := by
  unfold D_X8_drop at hD
  refine ev_aload_n dX8_drop_0 0 rfl rfl ?_
  refine ev_iload_n dX8_drop_1 1 rfl rfl ?_
  obtain ⟨_, g0, hD⟩ := bd hD
  obtain ⟨r1, g, hD⟩ := bd hD
  obtain ⟨v2 | e3, s4⟩ := r1
  · refine ew_callV0 (as := [vi x1]) (a := x0) (rest := []) dX8_drop_2 v_X8_needRule w_1036 rfl (Nat.le_of_ble_eq_true rfl) rfl rfl g0 (Nat.le_of_ble_eq_true rfl) (Nat.le_of_ble_eq_true rfl) (ct_X8_needRule g) ?_
    dsimp only at hD
    refine ev_aload_n dX8_drop_5 0 rfl rfl ?_
    obtain ⟨v5, g, hD⟩ := bd hD
    refine ew_getR 7 9 dX8_drop_6 rfl (Nat.le_of_ble_eq_true rfl) w_599 in_X8 rfl g ?_
    obtain ⟨v6, g, hD⟩ := bd hD
    refine ew_getR 0 7 dX8_drop_9 rfl (Nat.le_of_ble_eq_true rfl) w_401 in_X0 rfl g ?_
    refine ev_iload_n dX8_drop_12 1 rfl rfl ?_
    obtain ⟨v7, g, hD⟩ := bd hD
    refine ew_iald dX8_drop_13 g ?_
    refine ev_istore_n dX8_drop_14 rfl (Nat.le_of_ble_eq_true rfl) rfl ?_
    refine ev_aload_n dX8_drop_15 1 rfl rfl ?_
    obtain ⟨_, g0, hD⟩ := bd hD
    obtain ⟨r8, g, hD⟩ := bd hD
    refine ew_callV0 (as := []) (a := x0) (rest := []) dX8_drop_16 v_X8_keepForUndo w_956 rfl (Nat.le_of_ble_eq_true rfl) rfl rfl g0 (Nat.le_of_ble_eq_true rfl) (Nat.le_of_ble_eq_true rfl) (ct_X8_keepForUndo g) ?_
    refine ev_aload_n dX8_drop_19 1 rfl rfl ?_
    obtain ⟨v9, g, hD⟩ := bd hD
    refine ew_getR 7 1 dX8_drop_20 rfl (Nat.le_of_ble_eq_true rfl) w_591 in_X8 rfl g ?_
    refine ev_iload_n dX8_drop_23 2 rfl rfl ?_
    obtain ⟨_, g0, hD⟩ := bd hD
    obtain ⟨r10, g, hD⟩ := bd hD
    refine ew_callV0 (as := [vi x1]) (a := v9) (rest := []) dX8_drop_24 v_X5_dropRule w_1040 rfl (Nat.le_of_ble_eq_true rfl) rfl rfl g0 (Nat.le_of_ble_eq_true rfl) (Nat.le_of_ble_eq_true rfl) (ct_X5_dropRule g) ?_
    refine ev_aload_n dX8_drop_27 1 rfl rfl ?_
    obtain ⟨_, g0, hD⟩ := bd hD
    obtain ⟨r11, g, hD⟩ := bd hD
    refine ew_callV0 (as := []) (a := x0) (rest := []) dX8_drop_28 v_X8_renew w_485 rfl (Nat.le_of_ble_eq_true rfl) rfl rfl g0 (Nat.le_of_ble_eq_true rfl) (Nat.le_of_ble_eq_true rfl) (ct_X8_renew g) ?_
    refine ev_iload_n dX8_drop_31 0 rfl rfl ?_
    cases hD
    exact ev_ret (some (vi _)) dX8_drop_32 True.intro
  · cases hD
    exact ev_thrV (as := [vi x1]) (a := x0) (rest := []) dX8_drop_2 v_X8_needRule w_1036 rfl (Nat.le_of_ble_eq_true rfl) rfl rfl (tgO_s g0) (Nat.le_of_ble_eq_true rfl) (Nat.le_of_ble_eq_true rfl) rfl (ct_X8_needRule g)
theorem ct_X8_drop {G : mG} {x0 : Nat} {x1 : Int} {σ : mS} {R : ((Int ⊕ Nat) × mS)} (hD : D_X8_drop x0 x1 σ = some R) : Ct G M_X8_drop [vr x0, vi x1] σ (mRsI R.1) R.2 := ct_of rfl (by decide +kernel) rfl (Nat.le_of_ble_eq_true rfl) rfl (lk_X8_drop hD)
def D_X8_undo (x0 : Nat) (σ : mS) : Option (Int × mS) :=
  (gI σ x0 7 3).bind fun v1 =>
  if v1 ≠ 0 then
    (gI σ x0 7 3).bind fun v2 =>
    (pI σ x0 7 3 (mw (v2 - 1))).bind fun s3 =>
    (gR s3 x0 7 1).bind fun v4 =>
    (gR s3 x0 7 2).bind fun v5 =>
    (gI s3 x0 7 3).bind fun v6 =>
    (lR s3 v5 v6).bind fun v7 =>
    (tgO s3 v4 5).bind fun _ =>
    (D_X5_copyFrom v4 v7 s3).bind fun r8 =>
    (tgO r8 x0 7).bind fun _ =>
    (D_X8_renew x0 r8).bind fun r9 =>
    (gI r9 x0 7 3).bind fun v10 =>
    some (v10, r9)
  else
    some (((-1)), σ)
set_option maxRecDepth 100000 in
set_option maxHeartbeats 4000000 in
theorem lk_X8_undo {G : mG} {x0 : Nat} {σ : mS} {R : (Int × mS)} (hD : D_X8_undo x0 σ = some R) : Ev G M_X8_undo 0 [(0, vr x0)] [] σ (.inl (some (vi R.1))) R.2 := by
  unfold D_X8_undo at hD
  refine ev_aload_n dX8_undo_0 0 rfl rfl ?_
  obtain ⟨v1, g, hD⟩ := bd hD
  refine ew_getI 7 3 dX8_undo_1 rfl (Nat.le_of_ble_eq_true rfl) w_593 in_X8 rfl g ?_
  by_cases c : v1 ≠ 0
  · rw [if_pos c] at hD
    refine ev_if_ne_t (tgt := 9) dX8_undo_4 (by decide) c ?_
    refine ev_aload_n dX8_undo_9 0 rfl rfl ?_
    refine ev_dup dX8_undo_10 rfl ?_
    obtain ⟨v2, g, hD⟩ := bd hD
    refine ew_getI 7 3 dX8_undo_11 rfl (Nat.le_of_ble_eq_true rfl) w_593 in_X8 rfl g ?_
    refine ev_iconst dX8_undo_14 (mi_c rfl) ?_
    refine ev_isub dX8_undo_15 ?_
    obtain ⟨s3, g, hD⟩ := bd hD
    refine ew_putI 7 3 dX8_undo_16 rfl (Nat.le_of_ble_eq_true rfl) w_593 in_X8 tyX8_ok nmX8 (Or.inl rfl) rfl g ?_
    refine ev_aload_n dX8_undo_19 0 rfl rfl ?_
    obtain ⟨v4, g, hD⟩ := bd hD
    refine ew_getR 7 1 dX8_undo_20 rfl (Nat.le_of_ble_eq_true rfl) w_591 in_X8 rfl g ?_
    refine ev_aload_n dX8_undo_23 0 rfl rfl ?_
    obtain ⟨v5, g, hD⟩ := bd hD
    refine ew_getR 7 2 dX8_undo_24 rfl (Nat.le_of_ble_eq_true rfl) w_592 in_X8 rfl g ?_
    refine ev_aload_n dX8_undo_27 0 rfl rfl ?_
    obtain ⟨v6, g, hD⟩ := bd hD
    refine ew_getI 7 3 dX8_undo_28 rfl (Nat.le_of_ble_eq_true rfl) w_593 in_X8 rfl g ?_
    obtain ⟨v7, g, hD⟩ := bd hD
    refine ew_aald dX8_undo_31 g ?_
    obtain ⟨_, g0, hD⟩ := bd hD
    obtain ⟨r8, g, hD⟩ := bd hD
    refine ew_callV0 (as := [vr v7]) (a := v4) (rest := []) dX8_undo_32 v_X5_copyFrom w_643 rfl (Nat.le_of_ble_eq_true rfl) rfl rfl g0 (Nat.le_of_ble_eq_true rfl) (Nat.le_of_ble_eq_true rfl) (ct_X5_copyFrom g) ?_
    refine ev_aload_n dX8_undo_35 0 rfl rfl ?_
    obtain ⟨_, g0, hD⟩ := bd hD
    obtain ⟨r9, g, hD⟩ := bd hD
    refine ew_callV0 (as := []) (a := x0) (rest := []) dX8_undo_36 v_X8_renew w_485 rfl (Nat.le_of_ble_eq_true rfl) rfl rfl g0 (Nat.le_of_ble_eq_true rfl) (Nat.le_of_ble_eq_true rfl) (ct_X8_renew g) ?_
    refine ev_aload_n dX8_undo_39 0 rfl rfl ?_
    obtain ⟨v10, g, hD⟩ := bd hD
    refine ew_getI 7 3 dX8_undo_40 rfl (Nat.le_of_ble_eq_true rfl) w_593 in_X8 rfl g ?_
    cases hD
    exact ev_ret (some (vi _)) dX8_undo_43 True.intro
  · rw [if_neg c] at hD
    refine ev_if_ne_f 9 dX8_undo_4 (by decide) c ?_
    refine ev_iconst dX8_undo_7 (mi_c rfl) ?_
    cases hD
    exact ev_ret (some (vi _)) dX8_undo_8 True.intro
theorem ct_X8_undo {G : mG} {x0 : Nat} {σ : mS} {R : (Int × mS)} (hD : D_X8_undo x0 σ = some R) : Ct G M_X8_undo [vr x0] σ (.inl (some (vi R.1))) R.2 := ct_of rfl (by decide +kernel) rfl (Nat.le_of_ble_eq_true rfl) rfl (lk_X8_undo hD)
def D_X8_told_16 (x0 : Nat) (x1 : Int) (y0 : Int) (y1 : Nat) (σ : mS) : Option ((Int ⊕ Nat) × mS) :=
  (tgO σ y1 7).bind fun _ =>
  (D_X8_needArgument y1 y0 σ).bind fun r1 =>
  match r1 with
  | (Sum.inl _, s4) =>
    if x1 = 0 then
      (gR s4 x0 7 1).bind fun v5 =>
      (gI s4 v5 5 2).bind fun v6 =>
      some (Sum.inl v6, s4)
    else
    if x1 = 1 then
      (gR s4 x0 7 1).bind fun v7 =>
      (gI s4 v7 5 3).bind fun v8 =>
      some (Sum.inl v8, s4)
    else
    if x1 = 2 then
      (gR s4 x0 7 1).bind fun v9 =>
      (gI s4 v9 5 4).bind fun v10 =>
      some (Sum.inl v10, s4)
    else
    if x1 = 3 then
      (gR s4 x0 7 1).bind fun v11 =>
      (gI s4 v11 5 5).bind fun v12 =>
      some (Sum.inl v12, s4)
    else
    if x1 = 4 then
      (gR s4 x0 7 1).bind fun v13 =>
      (gI s4 v13 5 0).bind fun v14 =>
      some (Sum.inl v14, s4)
    else
    if x1 = 5 then
      (gR s4 x0 7 1).bind fun v15 =>
      (gI s4 v15 5 1).bind fun v16 =>
      some (Sum.inl v16, s4)
    else
    if x1 = 6 then
      (gR s4 x0 7 9).bind fun v17 =>
      (gI s4 v17 0 8).bind fun v18 =>
      some (Sum.inl v18, s4)
    else
    if x1 = 7 then
      (gR s4 x0 7 9).bind fun v19 =>
      (tgO s4 v19 0).bind fun _ =>
      (D_X0_yearsOfAll v19 s4).bind fun r20 =>
      some (Sum.inl r20, s4)
    else
    if x1 = 8 then
      (gR s4 x0 7 9).bind fun v21 =>
      (tgO s4 v21 0).bind fun _ =>
      (D_X0_emptySpans v21 s4).bind fun r22 =>
      some (Sum.inl r22, s4)
    else
    if x1 = 9 then
      (gR s4 x0 7 9).bind fun v23 =>
      (tgO s4 v23 0).bind fun _ =>
      (D_X0_goneOfAll v23 s4).bind fun r24 =>
      some (Sum.inl r24, s4)
    else
    if x1 = 10 then
      (gI s4 x0 7 3).bind fun v25 =>
      some (Sum.inl v25, s4)
    else
      (gI s4 x0 7 5).bind fun v26 =>
      some (Sum.inl v26, s4)
  | (Sum.inr e3, s4) => some (Sum.inr e3, s4)
set_option maxRecDepth 100000 in
set_option maxHeartbeats 4000000 in
theorem lk_X8_told_16 {G : mG} {x0 : Nat} {x1 : Int} {y0 : Int} {y1 : Nat} {σ : mS} {R : ((Int ⊕ Nat) × mS)} (hD : D_X8_told_16 x0 x1 y0 y1 σ = some R) : Ev G M_X8_told 16 [(0, vr x0), (1, vi x1)] [vi y0, vr y1] σ (mRsI R.1) R.2 := by
  unfold D_X8_told_16 at hD
  obtain ⟨_, g0, hD⟩ := bd hD
  obtain ⟨r1, g, hD⟩ := bd hD
  obtain ⟨v2 | e3, s4⟩ := r1
  · refine ew_callV0 (as := [vi y0]) (a := y1) (rest := []) dX8_told_16 v_X8_needArgument w_714 rfl (Nat.le_of_ble_eq_true rfl) rfl rfl g0 (Nat.le_of_ble_eq_true rfl) (Nat.le_of_ble_eq_true rfl) (ct_X8_needArgument g) ?_
    dsimp only at hD
    refine ev_iload_n dX8_told_19 1 rfl rfl ?_
    by_cases c0 : x1 = 0
    · rw [if_pos c0] at hD
      refine ev_tableIn (off := 60) (tgt := 80) dX8_told_20 (by omega) (by omega) (by rw [c0]; rfl) (by decide) ?_
      refine ev_aload_n dX8_told_80 0 rfl rfl ?_
      obtain ⟨v5, g, hD⟩ := bd hD
      refine ew_getR 7 1 dX8_told_81 rfl (Nat.le_of_ble_eq_true rfl) w_591 in_X8 rfl g ?_
      obtain ⟨v6, g, hD⟩ := bd hD
      refine ew_getI 5 2 dX8_told_84 rfl (Nat.le_of_ble_eq_true rfl) w_273 in_X5 rfl g ?_
      cases hD
      exact ev_ret (some (vi _)) dX8_told_87 True.intro
    rw [if_neg c0] at hD
    by_cases c1 : x1 = 1
    · rw [if_pos c1] at hD
      refine ev_tableIn (off := 68) (tgt := 88) dX8_told_20 (by omega) (by omega) (by rw [c1]; rfl) (by decide) ?_
      refine ev_aload_n dX8_told_88 0 rfl rfl ?_
      obtain ⟨v7, g, hD⟩ := bd hD
      refine ew_getR 7 1 dX8_told_89 rfl (Nat.le_of_ble_eq_true rfl) w_591 in_X8 rfl g ?_
      obtain ⟨v8, g, hD⟩ := bd hD
      refine ew_getI 5 3 dX8_told_92 rfl (Nat.le_of_ble_eq_true rfl) w_278 in_X5 rfl g ?_
      cases hD
      exact ev_ret (some (vi _)) dX8_told_95 True.intro
    rw [if_neg c1] at hD
    by_cases c2 : x1 = 2
    · rw [if_pos c2] at hD
      refine ev_tableIn (off := 76) (tgt := 96) dX8_told_20 (by omega) (by omega) (by rw [c2]; rfl) (by decide) ?_
      refine ev_aload_n dX8_told_96 0 rfl rfl ?_
      obtain ⟨v9, g, hD⟩ := bd hD
      refine ew_getR 7 1 dX8_told_97 rfl (Nat.le_of_ble_eq_true rfl) w_591 in_X8 rfl g ?_
      obtain ⟨v10, g, hD⟩ := bd hD
      refine ew_getI 5 4 dX8_told_100 rfl (Nat.le_of_ble_eq_true rfl) w_282 in_X5 rfl g ?_
      cases hD
      exact ev_ret (some (vi _)) dX8_told_103 True.intro
    rw [if_neg c2] at hD
    by_cases c3 : x1 = 3
    · rw [if_pos c3] at hD
      refine ev_tableIn (off := 84) (tgt := 104) dX8_told_20 (by omega) (by omega) (by rw [c3]; rfl) (by decide) ?_
      refine ev_aload_n dX8_told_104 0 rfl rfl ?_
      obtain ⟨v11, g, hD⟩ := bd hD
      refine ew_getR 7 1 dX8_told_105 rfl (Nat.le_of_ble_eq_true rfl) w_591 in_X8 rfl g ?_
      obtain ⟨v12, g, hD⟩ := bd hD
      refine ew_getI 5 5 dX8_told_108 rfl (Nat.le_of_ble_eq_true rfl) w_285 in_X5 rfl g ?_
      cases hD
      exact ev_ret (some (vi _)) dX8_told_111 True.intro
    rw [if_neg c3] at hD
    by_cases c4 : x1 = 4
    · rw [if_pos c4] at hD
      refine ev_tableIn (off := 92) (tgt := 112) dX8_told_20 (by omega) (by omega) (by rw [c4]; rfl) (by decide) ?_
      refine ev_aload_n dX8_told_112 0 rfl rfl ?_
      obtain ⟨v13, g, hD⟩ := bd hD
      refine ew_getR 7 1 dX8_told_113 rfl (Nat.le_of_ble_eq_true rfl) w_591 in_X8 rfl g ?_
      obtain ⟨v14, g, hD⟩ := bd hD
      refine ew_getI 5 0 dX8_told_116 rfl (Nat.le_of_ble_eq_true rfl) w_266 in_X5 rfl g ?_
      cases hD
      exact ev_ret (some (vi _)) dX8_told_119 True.intro
    rw [if_neg c4] at hD
    by_cases c5 : x1 = 5
    · rw [if_pos c5] at hD
      refine ev_tableIn (off := 100) (tgt := 120) dX8_told_20 (by omega) (by omega) (by rw [c5]; rfl) (by decide) ?_
      refine ev_aload_n dX8_told_120 0 rfl rfl ?_
      obtain ⟨v15, g, hD⟩ := bd hD
      refine ew_getR 7 1 dX8_told_121 rfl (Nat.le_of_ble_eq_true rfl) w_591 in_X8 rfl g ?_
      obtain ⟨v16, g, hD⟩ := bd hD
      refine ew_getI 5 1 dX8_told_124 rfl (Nat.le_of_ble_eq_true rfl) w_269 in_X5 rfl g ?_
      cases hD
      exact ev_ret (some (vi _)) dX8_told_127 True.intro
    rw [if_neg c5] at hD
    by_cases c6 : x1 = 6
    · rw [if_pos c6] at hD
      refine ev_tableIn (off := 108) (tgt := 128) dX8_told_20 (by omega) (by omega) (by rw [c6]; rfl) (by decide) ?_
      refine ev_aload_n dX8_told_128 0 rfl rfl ?_
      obtain ⟨v17, g, hD⟩ := bd hD
      refine ew_getR 7 9 dX8_told_129 rfl (Nat.le_of_ble_eq_true rfl) w_599 in_X8 rfl g ?_
      obtain ⟨v18, g, hD⟩ := bd hD
      refine ew_getI 0 8 dX8_told_132 rfl (Nat.le_of_ble_eq_true rfl) w_403 in_X0 rfl g ?_
      cases hD
      exact ev_ret (some (vi _)) dX8_told_135 True.intro
    rw [if_neg c6] at hD
    by_cases c7 : x1 = 7
    · rw [if_pos c7] at hD
      refine ev_tableIn (off := 116) (tgt := 136) dX8_told_20 (by omega) (by omega) (by rw [c7]; rfl) (by decide) ?_
      refine ev_aload_n dX8_told_136 0 rfl rfl ?_
      obtain ⟨v19, g, hD⟩ := bd hD
      refine ew_getR 7 9 dX8_told_137 rfl (Nat.le_of_ble_eq_true rfl) w_599 in_X8 rfl g ?_
      obtain ⟨_, g0, hD⟩ := bd hD
      obtain ⟨r20, g, hD⟩ := bd hD
      refine ew_callVv (as := []) (a := v19) (rest := []) dX8_told_140 v_X0_yearsOfAll w_1051 rfl (Nat.le_of_ble_eq_true rfl) rfl rfl g0 (Nat.le_of_ble_eq_true rfl) (Nat.le_of_ble_eq_true rfl) (ct_X0_yearsOfAll g) ?_
      cases hD
      exact ev_ret (some (vi _)) dX8_told_143 True.intro
    rw [if_neg c7] at hD
    by_cases c8 : x1 = 8
    · rw [if_pos c8] at hD
      refine ev_tableIn (off := 124) (tgt := 144) dX8_told_20 (by omega) (by omega) (by rw [c8]; rfl) (by decide) ?_
      refine ev_aload_n dX8_told_144 0 rfl rfl ?_
      obtain ⟨v21, g, hD⟩ := bd hD
      refine ew_getR 7 9 dX8_told_145 rfl (Nat.le_of_ble_eq_true rfl) w_599 in_X8 rfl g ?_
      obtain ⟨_, g0, hD⟩ := bd hD
      obtain ⟨r22, g, hD⟩ := bd hD
      refine ew_callVv (as := []) (a := v21) (rest := []) dX8_told_148 v_X0_emptySpans w_1055 rfl (Nat.le_of_ble_eq_true rfl) rfl rfl g0 (Nat.le_of_ble_eq_true rfl) (Nat.le_of_ble_eq_true rfl) (ct_X0_emptySpans g) ?_
      cases hD
      exact ev_ret (some (vi _)) dX8_told_151 True.intro
    rw [if_neg c8] at hD
    by_cases c9 : x1 = 9
    · rw [if_pos c9] at hD
      refine ev_tableIn (off := 132) (tgt := 152) dX8_told_20 (by omega) (by omega) (by rw [c9]; rfl) (by decide) ?_
      refine ev_aload_n dX8_told_152 0 rfl rfl ?_
      obtain ⟨v23, g, hD⟩ := bd hD
      refine ew_getR 7 9 dX8_told_153 rfl (Nat.le_of_ble_eq_true rfl) w_599 in_X8 rfl g ?_
      obtain ⟨_, g0, hD⟩ := bd hD
      obtain ⟨r24, g, hD⟩ := bd hD
      refine ew_callVv (as := []) (a := v23) (rest := []) dX8_told_156 v_X0_goneOfAll w_1059 rfl (Nat.le_of_ble_eq_true rfl) rfl rfl g0 (Nat.le_of_ble_eq_true rfl) (Nat.le_of_ble_eq_true rfl) (ct_X0_goneOfAll g) ?_
      cases hD
      exact ev_ret (some (vi _)) dX8_told_159 True.intro
    rw [if_neg c9] at hD
    by_cases c10 : x1 = 10
    · rw [if_pos c10] at hD
      refine ev_tableIn (off := 140) (tgt := 160) dX8_told_20 (by omega) (by omega) (by rw [c10]; rfl) (by decide) ?_
      refine ev_aload_n dX8_told_160 0 rfl rfl ?_
      obtain ⟨v25, g, hD⟩ := bd hD
      refine ew_getI 7 3 dX8_told_161 rfl (Nat.le_of_ble_eq_true rfl) w_593 in_X8 rfl g ?_
      cases hD
      exact ev_ret (some (vi _)) dX8_told_164 True.intro
    rw [if_neg c10] at hD
    refine ev_tableOut (tgt := 165) dX8_told_20 (by omega) (by decide) ?_
    refine ev_aload_n dX8_told_165 0 rfl rfl ?_
    obtain ⟨v26, g, hD⟩ := bd hD
    refine ew_getI 7 5 dX8_told_166 rfl (Nat.le_of_ble_eq_true rfl) w_595 in_X8 rfl g ?_
    cases hD
    exact ev_ret (some (vi _)) dX8_told_169 True.intro
  · cases hD
    exact ev_thrV (as := [vi y0]) (a := y1) (rest := []) dX8_told_16 v_X8_needArgument w_714 rfl (Nat.le_of_ble_eq_true rfl) rfl rfl (tgO_s g0) (Nat.le_of_ble_eq_true rfl) (Nat.le_of_ble_eq_true rfl) rfl (ct_X8_needArgument g)
def D_X8_told_15 (x0 : Nat) (x1 : Int) (y0 : Nat) (σ : mS) : Option ((Int ⊕ Nat) × mS) :=
  D_X8_told_16 x0 x1 0 y0 σ
set_option maxRecDepth 100000 in
set_option maxHeartbeats 4000000 in
theorem lk_X8_told_15 {G : mG} {x0 : Nat} {x1 : Int} {y0 : Nat} {σ : mS} {R : ((Int ⊕ Nat) × mS)} (hD : D_X8_told_15 x0 x1 y0 σ = some R) : Ev G M_X8_told 15 [(0, vr x0), (1, vi x1)] [vr y0] σ (mRsI R.1) R.2 := by
  unfold D_X8_told_15 at hD
  refine ev_iconst dX8_told_15 (mi_c rfl) ?_
  exact lk_X8_told_16 hD
def D_X8_told (x0 : Nat) (x1 : Int) (σ : mS) : Option ((Int ⊕ Nat) × mS) :=
  if x1 < 0 then
    D_X8_told_15 x0 x1 x0 σ
  else
    if 11 < x1 then
      D_X8_told_15 x0 x1 x0 σ
    else
      D_X8_told_16 x0 x1 1 x0 σ
set_option maxRecDepth 100000 in
set_option maxHeartbeats 4000000 in
theorem lk_X8_told {G : mG} {x0 : Nat} {x1 : Int} {σ : mS} {R : ((Int ⊕ Nat) × mS)} (hD : D_X8_told x0 x1 σ = some R) : Ev G M_X8_told 0 [(0, vr x0), (1, vi x1)] [] σ (mRsI R.1) R.2 := by
  unfold D_X8_told at hD
  refine ev_aload_n dX8_told_0 0 rfl rfl ?_
  refine ev_iload_n dX8_told_1 1 rfl rfl ?_
  by_cases c : x1 < 0
  · rw [if_pos c] at hD
    refine ev_if_lt_t (tgt := 15) dX8_told_2 (by decide) c ?_
    exact lk_X8_told_15 hD
  · rw [if_neg c] at hD
    refine ev_if_lt_f 15 dX8_told_2 (by decide) c ?_
    refine ev_iload_n dX8_told_5 1 rfl rfl ?_
    refine ev_bp dX8_told_6 rfl ?_
    by_cases c : 11 < x1
    · rw [if_pos c] at hD
      refine ev_icmp_gt_t (tgt := 15) dX8_told_8 (by decide) c ?_
      exact lk_X8_told_15 hD
    · rw [if_neg c] at hD
      refine ev_icmp_gt_f 15 dX8_told_8 (by decide) c ?_
      refine ev_iconst dX8_told_11 (mi_c rfl) ?_
      refine ev_goto (tgt := 16) dX8_told_12 (by decide) ?_
      exact lk_X8_told_16 hD
theorem ct_X8_told {G : mG} {x0 : Nat} {x1 : Int} {σ : mS} {R : ((Int ⊕ Nat) × mS)} (hD : D_X8_told x0 x1 σ = some R) : Ct G M_X8_told [vr x0, vi x1] σ (mRsI R.1) R.2 := ct_of rfl (by decide +kernel) rfl (Nat.le_of_ble_eq_true rfl) rfl (lk_X8_told hD)
def D_X8_needYear (x0 : Nat) (x1 : Int) (σ : mS) : Option ((Unit ⊕ Nat) × mS) :=
  (D_X8_isYear x1 σ).bind fun r1 =>
  (tgO σ x0 7).bind fun _ =>
  (D_X8_needThere x0 r1 σ).bind fun r2 =>
  match r2 with
  | (Sum.inl _, s5) =>
    some (Sum.inl (), s5)
  | (Sum.inr e4, s5) => some (Sum.inr e4, s5)
set_option maxRecDepth 100000 in
set_option maxHeartbeats 4000000 in
theorem lk_X8_needYear {G : mG} {x0 : Nat} {x1 : Int} {σ : mS} {R : ((Unit ⊕ Nat) × mS)} (hD : D_X8_needYear x0 x1 σ = some R) : Ev G M_X8_needYear 0 [(0, vr x0), (1, vi x1)] [] σ (mRsU R.1) R.2 := by
  unfold D_X8_needYear at hD
  refine ev_aload_n dX8_needYear_0 0 rfl rfl ?_
  refine ev_iload_n dX8_needYear_1 1 rfl rfl ?_
  obtain ⟨r1, g, hD⟩ := bd hD
  refine ew_callSv (as := [vi x1]) (rest := [vr x0]) dX8_needYear_2 v_X8_isYear w_1026 rfl (Nat.le_of_ble_eq_true rfl) (Nat.le_of_ble_eq_true rfl) (Nat.le_of_ble_eq_true rfl) (ct_X8_isYear g) ?_
  obtain ⟨_, g0, hD⟩ := bd hD
  obtain ⟨r2, g, hD⟩ := bd hD
  obtain ⟨v3 | e4, s5⟩ := r2
  · refine ew_callV0 (as := [vi r1]) (a := x0) (rest := []) dX8_needYear_5 v_X8_needThere w_972 rfl (Nat.le_of_ble_eq_true rfl) rfl rfl g0 (Nat.le_of_ble_eq_true rfl) (Nat.le_of_ble_eq_true rfl) (ct_X8_needThere g) ?_
    dsimp only at hD
    cases hD
    exact ev_ret none dX8_needYear_8 True.intro
  · cases hD
    exact ev_thrV (as := [vi r1]) (a := x0) (rest := []) dX8_needYear_5 v_X8_needThere w_972 rfl (Nat.le_of_ble_eq_true rfl) rfl rfl (tgO_s g0) (Nat.le_of_ble_eq_true rfl) (Nat.le_of_ble_eq_true rfl) rfl (ct_X8_needThere g)
theorem ct_X8_needYear {G : mG} {x0 : Nat} {x1 : Int} {σ : mS} {R : ((Unit ⊕ Nat) × mS)} (hD : D_X8_needYear x0 x1 σ = some R) : Ct G M_X8_needYear [vr x0, vi x1] σ (mRsU R.1) R.2 := ct_of rfl (by decide +kernel) rfl (Nat.le_of_ble_eq_true rfl) rfl (lk_X8_needYear hD)
def D_X8_age (x0 : Nat) (x1 : Int) (σ : mS) : Option ((Int ⊕ Nat) × mS) :=
  (tgO σ x0 7).bind fun _ =>
  (D_X8_needYear x0 x1 σ).bind fun r1 =>
  match r1 with
  | (Sum.inl _, s4) =>
    (gR s4 x0 7 0).bind fun v5 =>
    (lI s4 v5 x1).bind fun v6 =>
    some (Sum.inl v6, s4)
  | (Sum.inr e3, s4) => some (Sum.inr e3, s4)
set_option maxRecDepth 100000 in
set_option maxHeartbeats 4000000 in
theorem lk_X8_age {G : mG} {x0 : Nat} {x1 : Int} {σ : mS} {R : ((Int ⊕ Nat) × mS)} (hD : D_X8_age x0 x1 σ = some R) : Ev G M_X8_age 0 [(0, vr x0), (1, vi x1)] [] σ (mRsI R.1) R.2 := by
  unfold D_X8_age at hD
  refine ev_aload_n dX8_age_0 0 rfl rfl ?_
  refine ev_iload_n dX8_age_1 1 rfl rfl ?_
  obtain ⟨_, g0, hD⟩ := bd hD
  obtain ⟨r1, g, hD⟩ := bd hD
  obtain ⟨v2 | e3, s4⟩ := r1
  · refine ew_callV0 (as := [vi x1]) (a := x0) (rest := []) dX8_age_2 v_X8_needYear w_1070 rfl (Nat.le_of_ble_eq_true rfl) rfl rfl g0 (Nat.le_of_ble_eq_true rfl) (Nat.le_of_ble_eq_true rfl) (ct_X8_needYear g) ?_
    dsimp only at hD
    refine ev_aload_n dX8_age_5 0 rfl rfl ?_
    obtain ⟨v5, g, hD⟩ := bd hD
    refine ew_getR 7 0 dX8_age_6 rfl (Nat.le_of_ble_eq_true rfl) w_590 in_X8 rfl g ?_
    refine ev_iload_n dX8_age_9 1 rfl rfl ?_
    obtain ⟨v6, g, hD⟩ := bd hD
    refine ew_iald dX8_age_10 g ?_
    cases hD
    exact ev_ret (some (vi _)) dX8_age_11 True.intro
  · cases hD
    exact ev_thrV (as := [vi x1]) (a := x0) (rest := []) dX8_age_2 v_X8_needYear w_1070 rfl (Nat.le_of_ble_eq_true rfl) rfl rfl (tgO_s g0) (Nat.le_of_ble_eq_true rfl) (Nat.le_of_ble_eq_true rfl) rfl (ct_X8_needYear g)
theorem ct_X8_age {G : mG} {x0 : Nat} {x1 : Int} {σ : mS} {R : ((Int ⊕ Nat) × mS)} (hD : D_X8_age x0 x1 σ = some R) : Ct G M_X8_age [vr x0, vi x1] σ (mRsI R.1) R.2 := ct_of rfl (by decide +kernel) rfl (Nat.le_of_ble_eq_true rfl) rfl (lk_X8_age hD)
def D_X8_years_81 (rec : Nat → Int → Int → Int → Int → Int → mS → Option (Int × Int × Int)) (x0 : Nat) (x1 : Int) (x3 : Int) (x4 : Int) (x5 : Int) (x6 : Int) (σ : mS) : Option (Int × Int × Int) :=
  rec x0 x1 x3 x4 x5 (mw (x6 + 1)) σ
set_option maxRecDepth 100000 in
set_option maxHeartbeats 4000000 in
theorem lk_X8_years_81 {G : mG} {rec : Nat → Int → Int → Int → Int → Int → mS → Option (Int × Int × Int)} {x0 : Nat} {x1 : Int} {x2 : Int} {x3 : Int} {x4 : Int} {x5 : Int} {x6 : Int} {σ : mS} {R : (Int × Int × Int)} {r : mX} {τ : mS} (hD : D_X8_years_81 rec x0 x1 x3 x4 x5 x6 σ = some R) (hrec : ∀ {x0 : Nat} {x1 : Int} {x3 : Int} {x4 : Int} {x5 : Int} {x6 : Int} {σ : mS} {R : (Int × Int × Int)}, rec x0 x1 x3 x4 x5 x6 σ = some R → ∀ {r : mX} {τ : mS}, Ev G M_X8_years 87 [(2, vi x2), (3, vi (R.1)), (4, vi (R.2.1)), (5, vi (R.2.2))] [] σ r τ → Ev G M_X8_years 40 [(0, vr x0), (1, vi x1), (2, vi x2), (3, vi x3), (4, vi x4), (5, vi x5), (6, vi x6)] [] σ r τ) (hk : Ev G M_X8_years 87 [(2, vi x2), (3, vi (R.1)), (4, vi (R.2.1)), (5, vi (R.2.2))] [] σ r τ) : Ev G M_X8_years 81 [(0, vr x0), (1, vi x1), (2, vi x2), (3, vi x3), (4, vi x4), (5, vi x5), (6, vi x6)] [] σ r τ := by
  unfold D_X8_years_81 at hD
  refine ev_iinc dX8_years_81 6 rfl (Nat.le_of_ble_eq_true rfl) rfl ?_
  refine ev_goto (tgt := 40) dX8_years_84 (by decide) ?_
  refine Ev.pick [1, 2, 3, 4, 5, 6, 0] rfl ?_
  exact hrec hD hk
def D_X8_years_75 (rec : Nat → Int → Int → Int → Int → Int → mS → Option (Int × Int × Int)) (x0 : Nat) (x1 : Int) (x3 : Int) (x6 : Int) (y0 : Int) (σ : mS) : Option (Int × Int × Int) :=
  D_X8_years_81 rec x0 x1 x3 y0 x6 x6 σ
set_option maxRecDepth 100000 in
set_option maxHeartbeats 4000000 in
theorem lk_X8_years_75 {G : mG} {rec : Nat → Int → Int → Int → Int → Int → mS → Option (Int × Int × Int)} {x0 : Nat} {x1 : Int} {x2 : Int} {x3 : Int} {x6 : Int} {y0 : Int} {σ : mS} {R : (Int × Int × Int)} {r : mX} {τ : mS} (hD : D_X8_years_75 rec x0 x1 x3 x6 y0 σ = some R) (hrec : ∀ {x0 : Nat} {x1 : Int} {x3 : Int} {x4 : Int} {x5 : Int} {x6 : Int} {σ : mS} {R : (Int × Int × Int)}, rec x0 x1 x3 x4 x5 x6 σ = some R → ∀ {r : mX} {τ : mS}, Ev G M_X8_years 87 [(2, vi x2), (3, vi (R.1)), (4, vi (R.2.1)), (5, vi (R.2.2))] [] σ r τ → Ev G M_X8_years 40 [(0, vr x0), (1, vi x1), (2, vi x2), (3, vi x3), (4, vi x4), (5, vi x5), (6, vi x6)] [] σ r τ) (hk : Ev G M_X8_years 87 [(2, vi x2), (3, vi (R.1)), (4, vi (R.2.1)), (5, vi (R.2.2))] [] σ r τ) : Ev G M_X8_years 75 [(0, vr x0), (1, vi x1), (2, vi x2), (3, vi x3), (6, vi x6)] [vi y0] σ r τ := by
  unfold D_X8_years_75 at hD
  refine ev_istore dX8_years_75 (Nat.le_of_ble_eq_true rfl) rfl ?_
  refine ev_iload dX8_years_77 5 rfl ?_
  refine ev_istore dX8_years_79 (Nat.le_of_ble_eq_true rfl) rfl ?_
  refine Ev.pick [2, 3, 4, 5, 1, 0, 6] rfl ?_
  exact lk_X8_years_81 hD hrec hk
def D_X8_years_40 : Nat → Nat → Int → Int → Int → Int → Int → mS → Option (Int × Int × Int)
  | 0, _, _, _, _, _, _, _ => none
  | f + 1, x0, x1, x3, x4, x5, x6, σ =>
    if 1000 ≤ x6 then
      some (x3, x4, x5)
    else
      (gR σ x0 7 0).bind fun v1 =>
      (lI σ v1 x6).bind fun v2 =>
      if v2 ≠ x1 then
        D_X8_years_81 (D_X8_years_40 f) x0 x1 x3 x4 x5 x6 σ
      else
        if x4 ≠ ((-1)) then
          D_X8_years_75 (D_X8_years_40 f) x0 x1 (mw (x3 + 1)) x6 x4 σ
        else
          D_X8_years_75 (D_X8_years_40 f) x0 x1 (mw (x3 + 1)) x6 x6 σ
set_option maxRecDepth 100000 in
set_option maxHeartbeats 4000000 in
theorem lk_X8_years_40 {G : mG} {x2 : Int} (f : Nat) : ∀ {x0 : Nat} {x1 : Int} {x3 : Int} {x4 : Int} {x5 : Int} {x6 : Int} {σ : mS} {R : (Int × Int × Int)}, D_X8_years_40 f x0 x1 x3 x4 x5 x6 σ = some R → ∀ {r : mX} {τ : mS}, Ev G M_X8_years 87 [(2, vi x2), (3, vi (R.1)), (4, vi (R.2.1)), (5, vi (R.2.2))] [] σ r τ → Ev G M_X8_years 40 [(0, vr x0), (1, vi x1), (2, vi x2), (3, vi x3), (4, vi x4), (5, vi x5), (6, vi x6)] [] σ r τ := by
  induction f with
  | zero =>
    intros
    rename_i hD _ _ _
    cases hD
  | succ f ih =>
    intro x0 x1 x3 x4 x5 x6 σ R hD r τ hk
    have hrec := @ih
    rw [D_X8_years_40] at hD
    refine ev_iload dX8_years_40 6 rfl ?_
    refine ev_sp dX8_years_42 rfl ?_
    by_cases c : 1000 ≤ x6
    · rw [if_pos c] at hD
      refine ev_icmp_ge_t (tgt := 87) dX8_years_45 (by decide) c ?_
      cases hD
      refine Ev.pick [2, 3, 4, 5] rfl ?_
      exact hk
    · rw [if_neg c] at hD
      refine ev_icmp_ge_f 87 dX8_years_45 (by decide) c ?_
      refine ev_aload_n dX8_years_48 0 rfl rfl ?_
      obtain ⟨v1, g, hD⟩ := bd hD
      refine ew_getR 7 0 dX8_years_49 rfl (Nat.le_of_ble_eq_true rfl) w_590 in_X8 rfl g ?_
      refine ev_iload dX8_years_52 6 rfl ?_
      obtain ⟨v2, g, hD⟩ := bd hD
      refine ew_iald dX8_years_54 g ?_
      refine ev_iload_n dX8_years_55 1 rfl rfl ?_
      by_cases c : v2 ≠ x1
      · rw [if_pos c] at hD
        refine ev_icmp_ne_t (tgt := 81) dX8_years_56 (by decide) c ?_
        exact lk_X8_years_81 hD hrec hk
      · rw [if_neg c] at hD
        refine ev_icmp_ne_f 81 dX8_years_56 (by decide) c ?_
        refine ev_iinc dX8_years_59 3 rfl (Nat.le_of_ble_eq_true rfl) rfl ?_
        refine ev_iload dX8_years_62 4 rfl ?_
        refine ev_iconst dX8_years_64 (mi_c rfl) ?_
        by_cases c : x4 ≠ ((-1))
        · rw [if_pos c] at hD
          refine ev_icmp_ne_t (tgt := 73) dX8_years_65 (by decide) c ?_
          refine ev_iload dX8_years_73 4 rfl ?_
          refine Ev.pick [1, 2, 3, 0, 6] rfl ?_
          exact lk_X8_years_75 hD hrec hk
        · rw [if_neg c] at hD
          refine ev_icmp_ne_f 73 dX8_years_65 (by decide) c ?_
          refine ev_iload dX8_years_68 6 rfl ?_
          refine ev_goto (tgt := 75) dX8_years_70 (by decide) ?_
          refine Ev.pick [1, 2, 3, 0, 6] rfl ?_
          exact lk_X8_years_75 hD hrec hk
def D_X8_years_107 (y0 : Int) (σ : mS) : Option ((Int ⊕ Nat) × mS) :=
  some (Sum.inl y0, σ)
set_option maxRecDepth 100000 in
set_option maxHeartbeats 4000000 in
theorem lk_X8_years_107 {G : mG} {y0 : Int} {σ : mS} {R : ((Int ⊕ Nat) × mS)} (hD : D_X8_years_107 y0 σ = some R) : Ev G M_X8_years 107 [] [vi y0] σ (mRsI R.1) R.2 := by
  unfold D_X8_years_107 at hD
  cases hD
  exact ev_ret (some (vi _)) dX8_years_107 True.intro
def D_X8_years_26 (x0 : Nat) (x1 : Int) (x2 : Int) (y0 : Int) (y1 : Nat) (σ : mS) : Option ((Int ⊕ Nat) × mS) :=
  (tgO σ y1 7).bind fun _ =>
  (D_X8_needArgument y1 y0 σ).bind fun r1 =>
  match r1 with
  | (Sum.inl _, s4) =>
    (D_X8_years_40 mFU x0 x1 0 ((-1)) ((-1)) 0 s4).bind fun r5 =>
    if x2 ≠ 0 then
      if x2 ≠ 1 then
        D_X8_years_107 r5.2.2 s4
      else
        D_X8_years_107 r5.2.1 s4
    else
      D_X8_years_107 r5.1 s4
  | (Sum.inr e3, s4) => some (Sum.inr e3, s4)
set_option maxRecDepth 100000 in
set_option maxHeartbeats 4000000 in
theorem lk_X8_years_26 {G : mG} {x0 : Nat} {x1 : Int} {x2 : Int} {y0 : Int} {y1 : Nat} {σ : mS} {R : ((Int ⊕ Nat) × mS)} (hD : D_X8_years_26 x0 x1 x2 y0 y1 σ = some R) : Ev G M_X8_years 26 [(0, vr x0), (1, vi x1), (2, vi x2)] [vi y0, vr y1] σ (mRsI R.1) R.2 := by
  unfold D_X8_years_26 at hD
  obtain ⟨_, g0, hD⟩ := bd hD
  obtain ⟨r1, g, hD⟩ := bd hD
  obtain ⟨v2 | e3, s4⟩ := r1
  · refine ew_callV0 (as := [vi y0]) (a := y1) (rest := []) dX8_years_26 v_X8_needArgument w_714 rfl (Nat.le_of_ble_eq_true rfl) rfl rfl g0 (Nat.le_of_ble_eq_true rfl) (Nat.le_of_ble_eq_true rfl) (ct_X8_needArgument g) ?_
    dsimp only at hD
    refine ev_iconst dX8_years_29 (mi_c rfl) ?_
    refine ev_istore_n dX8_years_30 rfl (Nat.le_of_ble_eq_true rfl) rfl ?_
    refine ev_iconst dX8_years_31 (mi_c rfl) ?_
    refine ev_istore dX8_years_32 (Nat.le_of_ble_eq_true rfl) rfl ?_
    refine ev_iconst dX8_years_34 (mi_c rfl) ?_
    refine ev_istore dX8_years_35 (Nat.le_of_ble_eq_true rfl) rfl ?_
    refine ev_iconst dX8_years_37 (mi_c rfl) ?_
    refine ev_istore dX8_years_38 (Nat.le_of_ble_eq_true rfl) rfl ?_
    obtain ⟨r5, g, hD⟩ := bd hD
    refine Ev.pick [4, 5, 6, 3, 2, 1, 0] rfl ?_
    refine lk_X8_years_40 mFU g ?_
    refine ev_iload_n dX8_years_87 0 rfl rfl ?_
    by_cases c : x2 ≠ 0
    · rw [if_pos c] at hD
      refine ev_if_ne_t (tgt := 95) dX8_years_88 (by decide) c ?_
      refine ev_iload_n dX8_years_95 0 rfl rfl ?_
      refine ev_iconst dX8_years_96 (mi_c rfl) ?_
      by_cases c : x2 ≠ 1
      · rw [if_pos c] at hD
        refine ev_icmp_ne_t (tgt := 105) dX8_years_97 (by decide) c ?_
        refine ev_iload dX8_years_105 3 rfl ?_
        refine Ev.pick [] rfl ?_
        exact lk_X8_years_107 hD
      · rw [if_neg c] at hD
        refine ev_icmp_ne_f 105 dX8_years_97 (by decide) c ?_
        refine ev_iload dX8_years_100 2 rfl ?_
        refine ev_goto (tgt := 107) dX8_years_102 (by decide) ?_
        refine Ev.pick [] rfl ?_
        exact lk_X8_years_107 hD
    · rw [if_neg c] at hD
      refine ev_if_ne_f 95 dX8_years_88 (by decide) c ?_
      refine ev_iload_n dX8_years_91 1 rfl rfl ?_
      refine ev_goto (tgt := 107) dX8_years_92 (by decide) ?_
      refine Ev.pick [] rfl ?_
      exact lk_X8_years_107 hD
  · cases hD
    exact ev_thrV (as := [vi y0]) (a := y1) (rest := []) dX8_years_26 v_X8_needArgument w_714 rfl (Nat.le_of_ble_eq_true rfl) rfl rfl (tgO_s g0) (Nat.le_of_ble_eq_true rfl) (Nat.le_of_ble_eq_true rfl) rfl (ct_X8_needArgument g)
def D_X8_years_25 (x0 : Nat) (x1 : Int) (x2 : Int) (y0 : Nat) (σ : mS) : Option ((Int ⊕ Nat) × mS) :=
  D_X8_years_26 x0 x1 x2 0 y0 σ
set_option maxRecDepth 100000 in
set_option maxHeartbeats 4000000 in
theorem lk_X8_years_25 {G : mG} {x0 : Nat} {x1 : Int} {x2 : Int} {y0 : Nat} {σ : mS} {R : ((Int ⊕ Nat) × mS)} (hD : D_X8_years_25 x0 x1 x2 y0 σ = some R) : Ev G M_X8_years 25 [(0, vr x0), (1, vi x1), (2, vi x2)] [vr y0] σ (mRsI R.1) R.2 := by
  unfold D_X8_years_25 at hD
  refine ev_iconst dX8_years_25 (mi_c rfl) ?_
  exact lk_X8_years_26 hD
def D_X8_years (x0 : Nat) (x1 : Int) (x2 : Int) (σ : mS) : Option ((Int ⊕ Nat) × mS) :=
  if x1 < 0 then
    D_X8_years_25 x0 x1 x2 x0 σ
  else
    if 9999 < x1 then
      D_X8_years_25 x0 x1 x2 x0 σ
    else
      if x2 < 0 then
        D_X8_years_25 x0 x1 x2 x0 σ
      else
        if 2 < x2 then
          D_X8_years_25 x0 x1 x2 x0 σ
        else
          D_X8_years_26 x0 x1 x2 1 x0 σ
set_option maxRecDepth 100000 in
set_option maxHeartbeats 4000000 in
theorem lk_X8_years {G : mG} {x0 : Nat} {x1 : Int} {x2 : Int} {σ : mS} {R : ((Int ⊕ Nat) × mS)} (hD : D_X8_years x0 x1 x2 σ = some R) : Ev G M_X8_years 0 [(0, vr x0), (1, vi x1), (2, vi x2)] [] σ (mRsI R.1) R.2 := by
  unfold D_X8_years at hD
  refine ev_aload_n dX8_years_0 0 rfl rfl ?_
  refine ev_iload_n dX8_years_1 1 rfl rfl ?_
  by_cases c : x1 < 0
  · rw [if_pos c] at hD
    refine ev_if_lt_t (tgt := 25) dX8_years_2 (by decide) c ?_
    exact lk_X8_years_25 hD
  · rw [if_neg c] at hD
    refine ev_if_lt_f 25 dX8_years_2 (by decide) c ?_
    refine ev_iload_n dX8_years_5 1 rfl rfl ?_
    refine ev_sp dX8_years_6 rfl ?_
    by_cases c : 9999 < x1
    · rw [if_pos c] at hD
      refine ev_icmp_gt_t (tgt := 25) dX8_years_9 (by decide) c ?_
      exact lk_X8_years_25 hD
    · rw [if_neg c] at hD
      refine ev_icmp_gt_f 25 dX8_years_9 (by decide) c ?_
      refine ev_iload_n dX8_years_12 2 rfl rfl ?_
      by_cases c : x2 < 0
      · rw [if_pos c] at hD
        refine ev_if_lt_t (tgt := 25) dX8_years_13 (by decide) c ?_
        exact lk_X8_years_25 hD
      · rw [if_neg c] at hD
        refine ev_if_lt_f 25 dX8_years_13 (by decide) c ?_
        refine ev_iload_n dX8_years_16 2 rfl rfl ?_
        refine ev_iconst dX8_years_17 (mi_c rfl) ?_
        by_cases c : 2 < x2
        · rw [if_pos c] at hD
          refine ev_icmp_gt_t (tgt := 25) dX8_years_18 (by decide) c ?_
          exact lk_X8_years_25 hD
        · rw [if_neg c] at hD
          refine ev_icmp_gt_f 25 dX8_years_18 (by decide) c ?_
          refine ev_iconst dX8_years_21 (mi_c rfl) ?_
          refine ev_goto (tgt := 26) dX8_years_22 (by decide) ?_
          exact lk_X8_years_26 hD
theorem ct_X8_years {G : mG} {x0 : Nat} {x1 : Int} {x2 : Int} {σ : mS} {R : ((Int ⊕ Nat) × mS)} (hD : D_X8_years x0 x1 x2 σ = some R) : Ct G M_X8_years [vr x0, vi x1, vi x2] σ (mRsI R.1) R.2 := ct_of rfl (by decide +kernel) rfl (Nat.le_of_ble_eq_true rfl) rfl (lk_X8_years hD)
def D_X8_knot_67 (y0 : Int) (σ : mS) : Option ((Int ⊕ Nat) × mS) :=
  some (Sum.inl y0, σ)
set_option maxRecDepth 100000 in
set_option maxHeartbeats 4000000 in
theorem lk_X8_knot_67 {G : mG} {y0 : Int} {σ : mS} {R : ((Int ⊕ Nat) × mS)} (hD : D_X8_knot_67 y0 σ = some R) : Ev G M_X8_knot 67 [] [vi y0] σ (mRsI R.1) R.2 := by
  unfold D_X8_knot_67 at hD
  cases hD
  exact ev_ret (some (vi _)) dX8_knot_67 True.intro
def D_X8_knot_39 (x0 : Nat) (x1 : Int) (x2 : Int) (y0 : Int) (y1 : Nat) (σ : mS) : Option ((Int ⊕ Nat) × mS) :=
  (tgO σ y1 7).bind fun _ =>
  (D_X8_needArgument y1 y0 σ).bind fun r1 =>
  match r1 with
  | (Sum.inl _, s4) =>
    if x2 ≠ 0 then
      (gR s4 x0 7 1).bind fun v5 =>
      (gR s4 v5 5 7).bind fun v6 =>
      (lI s4 v6 x1).bind fun v7 =>
      D_X8_knot_67 v7 s4
    else
      (gR s4 x0 7 1).bind fun v8 =>
      (gR s4 v8 5 6).bind fun v9 =>
      (lI s4 v9 x1).bind fun v10 =>
      D_X8_knot_67 v10 s4
  | (Sum.inr e3, s4) => some (Sum.inr e3, s4)
set_option maxRecDepth 100000 in
set_option maxHeartbeats 4000000 in
theorem lk_X8_knot_39 {G : mG} {x0 : Nat} {x1 : Int} {x2 : Int} {y0 : Int} {y1 : Nat} {σ : mS} {R : ((Int ⊕ Nat) × mS)} (hD : D_X8_knot_39 x0 x1 x2 y0 y1 σ = some R) : Ev G M_X8_knot 39 [(0, vr x0), (1, vi x1), (2, vi x2)] [vi y0, vr y1] σ (mRsI R.1) R.2 := by
  unfold D_X8_knot_39 at hD
  obtain ⟨_, g0, hD⟩ := bd hD
  obtain ⟨r1, g, hD⟩ := bd hD
  obtain ⟨v2 | e3, s4⟩ := r1
  · refine ew_callV0 (as := [vi y0]) (a := y1) (rest := []) dX8_knot_39 v_X8_needArgument w_714 rfl (Nat.le_of_ble_eq_true rfl) rfl rfl g0 (Nat.le_of_ble_eq_true rfl) (Nat.le_of_ble_eq_true rfl) (ct_X8_needArgument g) ?_
    dsimp only at hD
    refine ev_iload_n dX8_knot_42 2 rfl rfl ?_
    by_cases c : x2 ≠ 0
    · rw [if_pos c] at hD
      refine ev_if_ne_t (tgt := 58) dX8_knot_43 (by decide) c ?_
      refine ev_aload_n dX8_knot_58 0 rfl rfl ?_
      obtain ⟨v5, g, hD⟩ := bd hD
      refine ew_getR 7 1 dX8_knot_59 rfl (Nat.le_of_ble_eq_true rfl) w_591 in_X8 rfl g ?_
      obtain ⟨v6, g, hD⟩ := bd hD
      refine ew_getR 5 7 dX8_knot_62 rfl (Nat.le_of_ble_eq_true rfl) w_292 in_X5 rfl g ?_
      refine ev_iload_n dX8_knot_65 1 rfl rfl ?_
      obtain ⟨v7, g, hD⟩ := bd hD
      refine ew_iald dX8_knot_66 g ?_
      refine Ev.pick [] rfl ?_
      exact lk_X8_knot_67 hD
    · rw [if_neg c] at hD
      refine ev_if_ne_f 58 dX8_knot_43 (by decide) c ?_
      refine ev_aload_n dX8_knot_46 0 rfl rfl ?_
      obtain ⟨v8, g, hD⟩ := bd hD
      refine ew_getR 7 1 dX8_knot_47 rfl (Nat.le_of_ble_eq_true rfl) w_591 in_X8 rfl g ?_
      obtain ⟨v9, g, hD⟩ := bd hD
      refine ew_getR 5 6 dX8_knot_50 rfl (Nat.le_of_ble_eq_true rfl) w_289 in_X5 rfl g ?_
      refine ev_iload_n dX8_knot_53 1 rfl rfl ?_
      obtain ⟨v10, g, hD⟩ := bd hD
      refine ew_iald dX8_knot_54 g ?_
      refine ev_goto (tgt := 67) dX8_knot_55 (by decide) ?_
      refine Ev.pick [] rfl ?_
      exact lk_X8_knot_67 hD
  · cases hD
    exact ev_thrV (as := [vi y0]) (a := y1) (rest := []) dX8_knot_39 v_X8_needArgument w_714 rfl (Nat.le_of_ble_eq_true rfl) rfl rfl (tgO_s g0) (Nat.le_of_ble_eq_true rfl) (Nat.le_of_ble_eq_true rfl) rfl (ct_X8_needArgument g)
def D_X8_knot_34 (x0 : Nat) (x1 : Int) (x2 : Int) (y0 : Nat) (σ : mS) : Option ((Int ⊕ Nat) × mS) :=
  D_X8_knot_39 x0 x1 x2 1 y0 σ
set_option maxRecDepth 100000 in
set_option maxHeartbeats 4000000 in
theorem lk_X8_knot_34 {G : mG} {x0 : Nat} {x1 : Int} {x2 : Int} {y0 : Nat} {σ : mS} {R : ((Int ⊕ Nat) × mS)} (hD : D_X8_knot_34 x0 x1 x2 y0 σ = some R) : Ev G M_X8_knot 34 [(0, vr x0), (1, vi x1), (2, vi x2)] [vr y0] σ (mRsI R.1) R.2 := by
  unfold D_X8_knot_34 at hD
  refine ev_iconst dX8_knot_34 (mi_c rfl) ?_
  refine ev_goto (tgt := 39) dX8_knot_35 (by decide) ?_
  exact lk_X8_knot_39 hD
def D_X8_knot_21 (x0 : Nat) (x1 : Int) (x2 : Int) (y0 : Int) (y1 : Nat) (σ : mS) : Option ((Int ⊕ Nat) × mS) :=
  (tgO σ y1 7).bind fun _ =>
  (D_X8_needThere y1 y0 σ).bind fun r1 =>
  match r1 with
  | (Sum.inl _, s4) =>
    if x2 = 0 then
      D_X8_knot_34 x0 x1 x2 x0 s4
    else
      if x2 ≠ 1 then
        D_X8_knot_39 x0 x1 x2 0 x0 s4
      else
        D_X8_knot_34 x0 x1 x2 x0 s4
  | (Sum.inr e3, s4) => some (Sum.inr e3, s4)
set_option maxRecDepth 100000 in
set_option maxHeartbeats 4000000 in
theorem lk_X8_knot_21 {G : mG} {x0 : Nat} {x1 : Int} {x2 : Int} {y0 : Int} {y1 : Nat} {σ : mS} {R : ((Int ⊕ Nat) × mS)} (hD : D_X8_knot_21 x0 x1 x2 y0 y1 σ = some R) : Ev G M_X8_knot 21 [(0, vr x0), (1, vi x1), (2, vi x2)] [vi y0, vr y1] σ (mRsI R.1) R.2 := by
  unfold D_X8_knot_21 at hD
  obtain ⟨_, g0, hD⟩ := bd hD
  obtain ⟨r1, g, hD⟩ := bd hD
  obtain ⟨v2 | e3, s4⟩ := r1
  · refine ew_callV0 (as := [vi y0]) (a := y1) (rest := []) dX8_knot_21 v_X8_needThere w_972 rfl (Nat.le_of_ble_eq_true rfl) rfl rfl g0 (Nat.le_of_ble_eq_true rfl) (Nat.le_of_ble_eq_true rfl) (ct_X8_needThere g) ?_
    dsimp only at hD
    refine ev_aload_n dX8_knot_24 0 rfl rfl ?_
    refine ev_iload_n dX8_knot_25 2 rfl rfl ?_
    by_cases c : x2 = 0
    · rw [if_pos c] at hD
      refine ev_if_eq_t (tgt := 34) dX8_knot_26 (by decide) c ?_
      exact lk_X8_knot_34 hD
    · rw [if_neg c] at hD
      refine ev_if_eq_f 34 dX8_knot_26 (by decide) c ?_
      refine ev_iload_n dX8_knot_29 2 rfl rfl ?_
      refine ev_iconst dX8_knot_30 (mi_c rfl) ?_
      by_cases c : x2 ≠ 1
      · rw [if_pos c] at hD
        refine ev_icmp_ne_t (tgt := 38) dX8_knot_31 (by decide) c ?_
        refine ev_iconst dX8_knot_38 (mi_c rfl) ?_
        exact lk_X8_knot_39 hD
      · rw [if_neg c] at hD
        refine ev_icmp_ne_f 38 dX8_knot_31 (by decide) c ?_
        exact lk_X8_knot_34 hD
  · cases hD
    exact ev_thrV (as := [vi y0]) (a := y1) (rest := []) dX8_knot_21 v_X8_needThere w_972 rfl (Nat.le_of_ble_eq_true rfl) rfl rfl (tgO_s g0) (Nat.le_of_ble_eq_true rfl) (Nat.le_of_ble_eq_true rfl) rfl (ct_X8_needThere g)
def D_X8_knot_20 (x0 : Nat) (x1 : Int) (x2 : Int) (y0 : Nat) (σ : mS) : Option ((Int ⊕ Nat) × mS) :=
  D_X8_knot_21 x0 x1 x2 0 y0 σ
set_option maxRecDepth 100000 in
set_option maxHeartbeats 4000000 in
theorem lk_X8_knot_20 {G : mG} {x0 : Nat} {x1 : Int} {x2 : Int} {y0 : Nat} {σ : mS} {R : ((Int ⊕ Nat) × mS)} (hD : D_X8_knot_20 x0 x1 x2 y0 σ = some R) : Ev G M_X8_knot 20 [(0, vr x0), (1, vi x1), (2, vi x2)] [vr y0] σ (mRsI R.1) R.2 := by
  unfold D_X8_knot_20 at hD
  refine ev_iconst dX8_knot_20 (mi_c rfl) ?_
  exact lk_X8_knot_21 hD
def D_X8_knot (x0 : Nat) (x1 : Int) (x2 : Int) (σ : mS) : Option ((Int ⊕ Nat) × mS) :=
  if x1 < 0 then
    D_X8_knot_20 x0 x1 x2 x0 σ
  else
    (gR σ x0 7 1).bind fun v1 =>
    (gI σ v1 5 2).bind fun v2 =>
    if v2 ≤ x1 then
      D_X8_knot_20 x0 x1 x2 x0 σ
    else
      D_X8_knot_21 x0 x1 x2 1 x0 σ
set_option maxRecDepth 100000 in
set_option maxHeartbeats 4000000 in
theorem lk_X8_knot {G : mG} {x0 : Nat} {x1 : Int} {x2 : Int} {σ : mS} {R : ((Int ⊕ Nat) × mS)} (hD : D_X8_knot x0 x1 x2 σ = some R) : Ev G M_X8_knot 0 [(0, vr x0), (1, vi x1), (2, vi x2)] [] σ (mRsI R.1) R.2 := by
  unfold D_X8_knot at hD
  refine ev_aload_n dX8_knot_0 0 rfl rfl ?_
  refine ev_iload_n dX8_knot_1 1 rfl rfl ?_
  by_cases c : x1 < 0
  · rw [if_pos c] at hD
    refine ev_if_lt_t (tgt := 20) dX8_knot_2 (by decide) c ?_
    exact lk_X8_knot_20 hD
  · rw [if_neg c] at hD
    refine ev_if_lt_f 20 dX8_knot_2 (by decide) c ?_
    refine ev_iload_n dX8_knot_5 1 rfl rfl ?_
    refine ev_aload_n dX8_knot_6 0 rfl rfl ?_
    obtain ⟨v1, g, hD⟩ := bd hD
    refine ew_getR 7 1 dX8_knot_7 rfl (Nat.le_of_ble_eq_true rfl) w_591 in_X8 rfl g ?_
    obtain ⟨v2, g, hD⟩ := bd hD
    refine ew_getI 5 2 dX8_knot_10 rfl (Nat.le_of_ble_eq_true rfl) w_273 in_X5 rfl g ?_
    by_cases c : v2 ≤ x1
    · rw [if_pos c] at hD
      refine ev_icmp_ge_t (tgt := 20) dX8_knot_13 (by decide) c ?_
      exact lk_X8_knot_20 hD
    · rw [if_neg c] at hD
      refine ev_icmp_ge_f 20 dX8_knot_13 (by decide) c ?_
      refine ev_iconst dX8_knot_16 (mi_c rfl) ?_
      refine ev_goto (tgt := 21) dX8_knot_17 (by decide) ?_
      exact lk_X8_knot_21 hD
theorem ct_X8_knot {G : mG} {x0 : Nat} {x1 : Int} {x2 : Int} {σ : mS} {R : ((Int ⊕ Nat) × mS)} (hD : D_X8_knot x0 x1 x2 σ = some R) : Ct G M_X8_knot [vr x0, vi x1, vi x2] σ (mRsI R.1) R.2 := ct_of rfl (by decide +kernel) rfl (Nat.le_of_ble_eq_true rfl) rfl (lk_X8_knot hD)
def D_X8_misfitOf_33 (y0 : Int) (σ : mS) : Option Int :=
  some y0
set_option maxRecDepth 100000 in
set_option maxHeartbeats 4000000 in
theorem lk_X8_misfitOf_33 {G : mG} {y0 : Int} {σ : mS} {R : Int} (hD : D_X8_misfitOf_33 y0 σ = some R) : Ev G M_X8_misfitOf 33 [] [vi y0] σ (.inl (some (vi R))) σ := by
  unfold D_X8_misfitOf_33 at hD
  cases hD
  exact ev_ret (some (vi _)) dX8_misfitOf_33 True.intro
def D_X8_misfitOf (x0 : Nat) (x1 : Int) (x2 : Int) (σ : mS) : Option Int :=
  if x2 ≠ ((-1)) then
    (gR σ x0 7 9).bind fun v1 =>
    (gR σ x0 7 1).bind fun v2 =>
    (gR σ v2 5 8).bind fun v3 =>
    (lR σ v3 x1).bind fun v4 =>
    (gR σ x0 7 1).bind fun v5 =>
    (gI σ v5 5 1).bind fun v6 =>
    (tgO σ v1 0).bind fun _ =>
    (D_X0_misfitOf v1 v4 x2 v6 σ).bind fun r7 =>
    D_X8_misfitOf_33 r7 σ
  else
    D_X8_misfitOf_33 ((-1)) σ
set_option maxRecDepth 100000 in
set_option maxHeartbeats 4000000 in
theorem lk_X8_misfitOf {G : mG} {x0 : Nat} {x1 : Int} {x2 : Int} {σ : mS} {R : Int} (hD : D_X8_misfitOf x0 x1 x2 σ = some R) : Ev G M_X8_misfitOf 0 [(0, vr x0), (1, vi x1), (2, vi x2)] [] σ (.inl (some (vi R))) σ := by
  unfold D_X8_misfitOf at hD
  refine ev_iload_n dX8_misfitOf_0 2 rfl rfl ?_
  refine ev_iconst dX8_misfitOf_1 (mi_c rfl) ?_
  by_cases c : x2 ≠ ((-1))
  · rw [if_pos c] at hD
    refine ev_icmp_ne_t (tgt := 9) dX8_misfitOf_2 (by decide) c ?_
    refine ev_aload_n dX8_misfitOf_9 0 rfl rfl ?_
    obtain ⟨v1, g, hD⟩ := bd hD
    refine ew_getR 7 9 dX8_misfitOf_10 rfl (Nat.le_of_ble_eq_true rfl) w_599 in_X8 rfl g ?_
    refine ev_aload_n dX8_misfitOf_13 0 rfl rfl ?_
    obtain ⟨v2, g, hD⟩ := bd hD
    refine ew_getR 7 1 dX8_misfitOf_14 rfl (Nat.le_of_ble_eq_true rfl) w_591 in_X8 rfl g ?_
    obtain ⟨v3, g, hD⟩ := bd hD
    refine ew_getR 5 8 dX8_misfitOf_17 rfl (Nat.le_of_ble_eq_true rfl) w_296 in_X5 rfl g ?_
    refine ev_iload_n dX8_misfitOf_20 1 rfl rfl ?_
    obtain ⟨v4, g, hD⟩ := bd hD
    refine ew_aald dX8_misfitOf_21 g ?_
    refine ev_iload_n dX8_misfitOf_22 2 rfl rfl ?_
    refine ev_aload_n dX8_misfitOf_23 0 rfl rfl ?_
    obtain ⟨v5, g, hD⟩ := bd hD
    refine ew_getR 7 1 dX8_misfitOf_24 rfl (Nat.le_of_ble_eq_true rfl) w_591 in_X8 rfl g ?_
    obtain ⟨v6, g, hD⟩ := bd hD
    refine ew_getI 5 1 dX8_misfitOf_27 rfl (Nat.le_of_ble_eq_true rfl) w_269 in_X5 rfl g ?_
    obtain ⟨_, g0, hD⟩ := bd hD
    obtain ⟨r7, g, hD⟩ := bd hD
    refine ew_callVv (as := [vr v4, vi x2, vi v6]) (a := v1) (rest := []) dX8_misfitOf_30 v_X0_misfitOf w_1112 rfl (Nat.le_of_ble_eq_true rfl) rfl rfl g0 (Nat.le_of_ble_eq_true rfl) (Nat.le_of_ble_eq_true rfl) (ct_X0_misfitOf g) ?_
    refine Ev.pick [] rfl ?_
    exact lk_X8_misfitOf_33 hD
  · rw [if_neg c] at hD
    refine ev_icmp_ne_f 9 dX8_misfitOf_2 (by decide) c ?_
    refine ev_iconst dX8_misfitOf_5 (mi_c rfl) ?_
    refine ev_goto (tgt := 33) dX8_misfitOf_6 (by decide) ?_
    refine Ev.pick [] rfl ?_
    exact lk_X8_misfitOf_33 hD
theorem ct_X8_misfitOf {G : mG} {x0 : Nat} {x1 : Int} {x2 : Int} {σ : mS} {R : Int} (hD : D_X8_misfitOf x0 x1 x2 σ = some R) : Ct G M_X8_misfitOf [vr x0, vi x1, vi x2] σ (.inl (some (vi R))) σ := ct_of rfl (by decide +kernel) rfl (Nat.le_of_ble_eq_true rfl) rfl (lk_X8_misfitOf hD)
