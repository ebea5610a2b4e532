def D_X5_init_78 : Nat → Nat → Int → mS → Option mS
  | 0, _, _, _ => none
  | f + 1, x0, x1, σ =>
    if 12 ≤ x1 then
      some σ
    else
      (gR σ x0 5 8).bind fun v1 =>
      (nwO σ 4 5).bind fun s2 =>
      (tgN (32 + mN σ)).bind fun _ =>
      (D_X4_init (32 + mN σ) s2).bind fun r3 =>
      (sR r3 v1 x1 (32 + mN σ)).bind fun s4 =>
      (D_X5_init_78 f) x0 (mw (x1 + 1)) s4
set_option maxRecDepth 100000 in
set_option maxHeartbeats 4000000 in
theorem lk_X5_init_78 {G : mG} (f : Nat) : ∀ {x0 : Nat} {x1 : Int} {σ : mS} {R : mS}, D_X5_init_78 f x0 x1 σ = some R → ∀ {r : mX} {τ : mS}, Ev G M_X5_init 103 [(0, vr x0)] [] R r τ → Ev G M_X5_init 78 [(0, vr x0), (1, vi x1)] [] σ r τ := by
  induction f with
  | zero =>
    intros
    rename_i hD _ _ _
    cases hD
  | succ f ih =>
    intro x0 x1 σ R hD r τ hk
    have hrec := @ih
    rw [D_X5_init_78] at hD
    refine ev_iload_n dX5_init_78 1 rfl rfl ?_
    refine ev_bp dX5_init_79 rfl ?_
    by_cases c : 12 ≤ x1
    · rw [if_pos c] at hD
      refine ev_icmp_ge_t (tgt := 103) dX5_init_81 (by decide) c ?_
      cases hD
      refine Ev.pick [0] rfl ?_
      exact hk
    · rw [if_neg c] at hD
      refine ev_icmp_ge_f 103 dX5_init_81 (by decide) c ?_
      refine ev_aload_n dX5_init_84 0 rfl rfl ?_
      obtain ⟨v1, g, hD⟩ := bd hD
      refine ew_getR 5 8 dX5_init_85 rfl (Nat.le_of_ble_eq_true rfl) w_294 in_X5 rfl g ?_
      refine ev_iload_n dX5_init_88 1 rfl rfl ?_
      obtain ⟨s2, g, hD⟩ := bd hD
      refine ew_new 4 dX5_init_89 rfl in_X4 tyX4_ok dv_X4 w_163 w_169 w_126 g ?_
      refine ev_dup dX5_init_92 rfl ?_
      obtain ⟨_, g0, hD⟩ := bd hD
      obtain ⟨r3, g, hD⟩ := bd hD
      refine ew_callIN (as := []) (a := (32 + mN σ)) (rest := [vr (32 + mN σ), vi x1, vr v1]) dX5_init_93 v_X4_init w_t170 rfl (Nat.le_of_ble_eq_true rfl) g0 (Nat.le_of_ble_eq_true rfl) (Nat.le_of_ble_eq_true rfl) (ct_X4_init g) ?_
      obtain ⟨s4, g, hD⟩ := bd hD
      refine ew_aast dX5_init_96 g ?_
      refine ev_iinc dX5_init_97 1 rfl (Nat.le_of_ble_eq_true rfl) rfl ?_
      refine ev_goto (tgt := 78) dX5_init_100 (by decide) ?_
      refine Ev.pick [1, 0] rfl ?_
      exact hrec hD hk
def D_X5_init_105 : Nat → Nat → Int → mS → Option mS
  | 0, _, _, _ => none
  | f + 1, x0, x1, σ =>
    if 4 ≤ x1 then
      some σ
    else
      (gR σ x0 5 9).bind fun v1 =>
      (nwO σ 1 2).bind fun s2 =>
      (tgN (32 + mN σ)).bind fun _ =>
      (D_X1_init (32 + mN σ) s2).bind fun r3 =>
      (sR r3 v1 x1 (32 + mN σ)).bind fun s4 =>
      (D_X5_init_105 f) x0 (mw (x1 + 1)) s4
set_option maxRecDepth 100000 in
set_option maxHeartbeats 4000000 in
theorem lk_X5_init_105 {G : mG} (f : Nat) : ∀ {x0 : Nat} {x1 : Int} {σ : mS} {R : mS}, D_X5_init_105 f x0 x1 σ = some R → ∀ {r : mX} {τ : mS}, Ev G M_X5_init 129 [(0, vr x0)] [] R r τ → Ev G M_X5_init 105 [(0, vr x0), (1, vi x1)] [] σ r τ := by
  induction f with
  | zero =>
    intros
    rename_i hD _ _ _
    cases hD
  | succ f ih =>
    intro x0 x1 σ R hD r τ hk
    have hrec := @ih
    rw [D_X5_init_105] at hD
    refine ev_iload_n dX5_init_105 1 rfl rfl ?_
    refine ev_iconst dX5_init_106 (mi_c rfl) ?_
    by_cases c : 4 ≤ x1
    · rw [if_pos c] at hD
      refine ev_icmp_ge_t (tgt := 129) dX5_init_107 (by decide) c ?_
      cases hD
      refine Ev.pick [0] rfl ?_
      exact hk
    · rw [if_neg c] at hD
      refine ev_icmp_ge_f 129 dX5_init_107 (by decide) c ?_
      refine ev_aload_n dX5_init_110 0 rfl rfl ?_
      obtain ⟨v1, g, hD⟩ := bd hD
      refine ew_getR 5 9 dX5_init_111 rfl (Nat.le_of_ble_eq_true rfl) w_298 in_X5 rfl g ?_
      refine ev_iload_n dX5_init_114 1 rfl rfl ?_
      obtain ⟨s2, g, hD⟩ := bd hD
      refine ew_new 1 dX5_init_115 rfl in_X1 tyX1_ok dv_X1 w_165 w_204 w_127 g ?_
      refine ev_dup dX5_init_118 rfl ?_
      obtain ⟨_, g0, hD⟩ := bd hD
      obtain ⟨r3, g, hD⟩ := bd hD
      refine ew_callIN (as := []) (a := (32 + mN σ)) (rest := [vr (32 + mN σ), vi x1, vr v1]) dX5_init_119 v_X1_init w_t205 rfl (Nat.le_of_ble_eq_true rfl) g0 (Nat.le_of_ble_eq_true rfl) (Nat.le_of_ble_eq_true rfl) (ct_X1_init g) ?_
      obtain ⟨s4, g, hD⟩ := bd hD
      refine ew_aast dX5_init_122 g ?_
      refine ev_iinc dX5_init_123 1 rfl (Nat.le_of_ble_eq_true rfl) rfl ?_
      refine ev_goto (tgt := 105) dX5_init_126 (by decide) ?_
      refine Ev.pick [1, 0] rfl ?_
      exact hrec hD hk
def D_X5_init_131 : Nat → Nat → Int → mS → Option mS
  | 0, _, _, _ => none
  | f + 1, x0, x1, σ =>
    if 24 ≤ x1 then
      some σ
    else
      (gR σ x0 5 10).bind fun v1 =>
      (nwO σ 3 5).bind fun s2 =>
      (tgN (32 + mN σ)).bind fun _ =>
      (D_X3_init (32 + mN σ) s2).bind fun r3 =>
      (sR r3 v1 x1 (32 + mN σ)).bind fun s4 =>
      (D_X5_init_131 f) x0 (mw (x1 + 1)) s4
set_option maxRecDepth 100000 in
set_option maxHeartbeats 4000000 in
theorem lk_X5_init_131 {G : mG} (f : Nat) : ∀ {x0 : Nat} {x1 : Int} {σ : mS} {R : mS}, D_X5_init_131 f x0 x1 σ = some R → ∀ {r : mX} {τ : mS}, Ev G M_X5_init 156 [] [] R r τ → Ev G M_X5_init 131 [(0, vr x0), (1, vi x1)] [] σ r τ := by
  induction f with
  | zero =>
    intros
    rename_i hD _ _ _
    cases hD
  | succ f ih =>
    intro x0 x1 σ R hD r τ hk
    have hrec := @ih
    rw [D_X5_init_131] at hD
    refine ev_iload_n dX5_init_131 1 rfl rfl ?_
    refine ev_bp dX5_init_132 rfl ?_
    by_cases c : 24 ≤ x1
    · rw [if_pos c] at hD
      refine ev_icmp_ge_t (tgt := 156) dX5_init_134 (by decide) c ?_
      cases hD
      refine Ev.pick [] rfl ?_
      exact hk
    · rw [if_neg c] at hD
      refine ev_icmp_ge_f 156 dX5_init_134 (by decide) c ?_
      refine ev_aload_n dX5_init_137 0 rfl rfl ?_
      obtain ⟨v1, g, hD⟩ := bd hD
      refine ew_getR 5 10 dX5_init_138 rfl (Nat.le_of_ble_eq_true rfl) w_303 in_X5 rfl g ?_
      refine ev_iload_n dX5_init_141 1 rfl rfl ?_
      obtain ⟨s2, g, hD⟩ := bd hD
      refine ew_new 3 dX5_init_142 rfl in_X3 tyX3_ok dv_X3 w_167 w_224 w_128 g ?_
      refine ev_dup dX5_init_145 rfl ?_
      obtain ⟨_, g0, hD⟩ := bd hD
      obtain ⟨r3, g, hD⟩ := bd hD
      refine ew_callIN (as := []) (a := (32 + mN σ)) (rest := [vr (32 + mN σ), vi x1, vr v1]) dX5_init_146 v_X3_init w_t225 rfl (Nat.le_of_ble_eq_true rfl) g0 (Nat.le_of_ble_eq_true rfl) (Nat.le_of_ble_eq_true rfl) (ct_X3_init g) ?_
      obtain ⟨s4, g, hD⟩ := bd hD
      refine ew_aast dX5_init_149 g ?_
      refine ev_iinc dX5_init_150 1 rfl (Nat.le_of_ble_eq_true rfl) rfl ?_
      refine ev_goto (tgt := 131) dX5_init_153 (by decide) ?_
      refine Ev.pick [1, 0] rfl ?_
      exact hrec hD hk
def D_X5_init (x0 : Nat) (σ : mS) : Option mS :=
  (tgN x0).bind fun _ =>
  (pI σ x0 5 0 1).bind fun s1 =>
  (pI s1 x0 5 1 0).bind fun s2 =>
  (pI s2 x0 5 2 0).bind fun s3 =>
  (pI s3 x0 5 3 0).bind fun s4 =>
  (pI s4 x0 5 4 0).bind fun s5 =>
  (pI s5 x0 5 5 0).bind fun s6 =>
  (nwA s6 0 16).bind fun s7 =>
  (pR s7 x0 5 6 (32 + mN s6)).bind fun s8 =>
  (nwA s8 0 16).bind fun s9 =>
  (pR s9 x0 5 7 (32 + mN s8)).bind fun s10 =>
  (nwA s10 5 12).bind fun s11 =>
  (pR s11 x0 5 8 (32 + mN s10)).bind fun s12 =>
  (nwA s12 6 4).bind fun s13 =>
  (pR s13 x0 5 9 (32 + mN s12)).bind fun s14 =>
  (nwA s14 7 24).bind fun s15 =>
  (pR s15 x0 5 10 (32 + mN s14)).bind fun s16 =>
  (D_X5_init_78 mFU x0 0 s16).bind fun r17 =>
  (D_X5_init_105 mFU x0 0 r17).bind fun r18 =>
  (D_X5_init_131 mFU x0 0 r18).bind fun r19 =>
  some r19
set_option maxRecDepth 100000 in
set_option maxHeartbeats 4000000 in
theorem lk_X5_init {G : mG} {x0 : Nat} {σ : mS} {R : mS} (hD : D_X5_init x0 σ = some R) : Ev G M_X5_init 0 [(0, vr x0)] [] σ (.inl none) R := by
  unfold D_X5_init at hD
  refine ev_aload_n dX5_init_0 0 rfl rfl ?_
  obtain ⟨_, g, hD⟩ := bd hD
  refine ew_objInit dX5_init_1 w_162 w_objI w_objC (Nat.le_of_ble_eq_true rfl) (Nat.le_of_ble_eq_true rfl) (Nat.le_of_ble_eq_true rfl) g ?_
  refine ev_aload_n dX5_init_4 0 rfl rfl ?_
  refine ev_iconst dX5_init_5 (mi_c rfl) ?_
  obtain ⟨s1, g, hD⟩ := bd hD
  refine ew_putI 5 0 dX5_init_6 rfl (Nat.le_of_ble_eq_true rfl) w_265 in_X5 tyX5_ok nmX5 (Or.inl rfl) rfl g ?_
  refine ev_aload_n dX5_init_9 0 rfl rfl ?_
  refine ev_iconst dX5_init_10 (mi_c rfl) ?_
  obtain ⟨s2, g, hD⟩ := bd hD
  refine ew_putI 5 1 dX5_init_11 rfl (Nat.le_of_ble_eq_true rfl) w_268 in_X5 tyX5_ok nmX5 (Or.inl rfl) rfl g ?_
  refine ev_aload_n dX5_init_14 0 rfl rfl ?_
  refine ev_iconst dX5_init_15 (mi_c rfl) ?_
  obtain ⟨s3, g, hD⟩ := bd hD
  refine ew_putI 5 2 dX5_init_16 rfl (Nat.le_of_ble_eq_true rfl) w_272 in_X5 tyX5_ok nmX5 (Or.inl rfl) rfl g ?_
  refine ev_aload_n dX5_init_19 0 rfl rfl ?_
  refine ev_iconst dX5_init_20 (mi_c rfl) ?_
  obtain ⟨s4, g, hD⟩ := bd hD
  refine ew_putI 5 3 dX5_init_21 rfl (Nat.le_of_ble_eq_true rfl) w_275 in_X5 tyX5_ok nmX5 (Or.inl rfl) rfl g ?_
  refine ev_aload_n dX5_init_24 0 rfl rfl ?_
  refine ev_iconst dX5_init_25 (mi_c rfl) ?_
  obtain ⟨s5, g, hD⟩ := bd hD
  refine ew_putI 5 4 dX5_init_26 rfl (Nat.le_of_ble_eq_true rfl) w_280 in_X5 tyX5_ok nmX5 (Or.inl rfl) rfl g ?_
  refine ev_aload_n dX5_init_29 0 rfl rfl ?_
  refine ev_iconst dX5_init_30 (mi_c rfl) ?_
  obtain ⟨s6, g, hD⟩ := bd hD
  refine ew_putI 5 5 dX5_init_31 rfl (Nat.le_of_ble_eq_true rfl) w_283 in_X5 tyX5_ok nmX5 (Or.inl rfl) rfl g ?_
  refine ev_aload_n dX5_init_34 0 rfl rfl ?_
  refine ev_bp dX5_init_35 rfl ?_
  obtain ⟨s7, g, hD⟩ := bd hD
  refine ew_newa 0 dX5_init_37 rfl rfl (by decide +kernel) (by decide +kernel) w_203 g ?_
  obtain ⟨s8, g, hD⟩ := bd hD
  refine ew_putR 5 6 dX5_init_39 rfl (Nat.le_of_ble_eq_true rfl) w_288 in_X5 tyX5_ok nmX5 (Or.inr ⟨rfl, rfl⟩) rfl g ?_
  refine ev_aload_n dX5_init_42 0 rfl rfl ?_
  refine ev_bp dX5_init_43 rfl ?_
  obtain ⟨s9, g, hD⟩ := bd hD
  refine ew_newa 0 dX5_init_45 rfl rfl (by decide +kernel) (by decide +kernel) w_203 g ?_
  obtain ⟨s10, g, hD⟩ := bd hD
  refine ew_putR 5 7 dX5_init_47 rfl (Nat.le_of_ble_eq_true rfl) w_291 in_X5 tyX5_ok nmX5 (Or.inr ⟨rfl, rfl⟩) rfl g ?_
  refine ev_aload_n dX5_init_50 0 rfl rfl ?_
  refine ev_bp dX5_init_51 rfl ?_
  obtain ⟨s11, g, hD⟩ := bd hD
  refine ew_anew 5 dX5_init_53 rfl w_163 w_t164 g ?_
  obtain ⟨s12, g, hD⟩ := bd hD
  refine ew_putR 5 8 dX5_init_56 rfl (Nat.le_of_ble_eq_true rfl) w_294 in_X5 tyX5_ok nmX5 (Or.inr ⟨rfl, rfl⟩) rfl g ?_
  refine ev_aload_n dX5_init_59 0 rfl rfl ?_
  refine ev_iconst dX5_init_60 (mi_c rfl) ?_
  obtain ⟨s13, g, hD⟩ := bd hD
  refine ew_anew 6 dX5_init_61 rfl w_165 w_t166 g ?_
  obtain ⟨s14, g, hD⟩ := bd hD
  refine ew_putR 5 9 dX5_init_64 rfl (Nat.le_of_ble_eq_true rfl) w_298 in_X5 tyX5_ok nmX5 (Or.inr ⟨rfl, rfl⟩) rfl g ?_
  refine ev_aload_n dX5_init_67 0 rfl rfl ?_
  refine ev_bp dX5_init_68 rfl ?_
  obtain ⟨s15, g, hD⟩ := bd hD
  refine ew_anew 7 dX5_init_70 rfl w_167 w_t168 g ?_
  obtain ⟨s16, g, hD⟩ := bd hD
  refine ew_putR 5 10 dX5_init_73 rfl (Nat.le_of_ble_eq_true rfl) w_303 in_X5 tyX5_ok nmX5 (Or.inr ⟨rfl, rfl⟩) rfl g ?_
  refine ev_iconst dX5_init_76 (mi_c rfl) ?_
  refine ev_istore_n dX5_init_77 rfl (Nat.le_of_ble_eq_true rfl) rfl ?_
  obtain ⟨r17, g, hD⟩ := bd hD
  refine Ev.pick [1, 0] rfl ?_
  refine lk_X5_init_78 mFU g ?_
  refine ev_iconst dX5_init_103 (mi_c rfl) ?_
  refine ev_istore_n dX5_init_104 rfl (Nat.le_of_ble_eq_true rfl) rfl ?_
  obtain ⟨r18, g, hD⟩ := bd hD
  refine Ev.pick [1, 0] rfl ?_
  refine lk_X5_init_105 mFU g ?_
  refine ev_iconst dX5_init_129 (mi_c rfl) ?_
  refine ev_istore_n dX5_init_130 rfl (Nat.le_of_ble_eq_true rfl) rfl ?_
  obtain ⟨r19, g, hD⟩ := bd hD
  refine Ev.pick [1, 0] rfl ?_
  refine lk_X5_init_131 mFU g ?_
  cases hD
  exact ev_ret none dX5_init_156 True.intro
theorem ct_X5_init {G : mG} {x0 : Nat} {σ : mS} {R : mS} (hD : D_X5_init x0 σ = some R) : Ct G M_X5_init [vr x0] σ (.inl none) R := ct_of rfl (by decide +kernel) rfl (Nat.le_of_ble_eq_true rfl) rfl (lk_X5_init hD)
