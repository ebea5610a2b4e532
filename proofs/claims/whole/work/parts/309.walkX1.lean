def D_X1_init (x0 : Nat) (σ : mS) : Option mS :=
  (tgN x0).bind fun _ =>
  (pI σ x0 1 0 0).bind fun s1 =>
  (nwA s1 0 6).bind fun s2 =>
  (pR s2 x0 1 1 (32 + mN s1)).bind fun s3 =>
  some s3
set_option maxRecDepth 100000 in
set_option maxHeartbeats 4000000 in
theorem lk_X1_init {G : mG} {x0 : Nat} {σ : mS} {R : mS} (hD : D_X1_init x0 σ = some R) : Ev G M_X1_init 0 [(0, vr x0)] [] σ (.inl none) R := by
  unfold D_X1_init at hD
  refine ev_aload_n dX1_init_0 0 rfl rfl ?_
  obtain ⟨_, g, hD⟩ := bd hD
  refine ew_objInit dX1_init_1 w_208 w_objI w_objC (Nat.le_of_ble_eq_true rfl) (Nat.le_of_ble_eq_true rfl) (Nat.le_of_ble_eq_true rfl) g ?_
  refine ev_aload_n dX1_init_4 0 rfl rfl ?_
  refine ev_iconst dX1_init_5 (mi_c rfl) ?_
  obtain ⟨s1, g, hD⟩ := bd hD
  refine ew_putI 1 0 dX1_init_6 rfl (Nat.le_of_ble_eq_true rfl) w_209 in_X1 tyX1_ok nmX1 (Or.inl rfl) rfl g ?_
  refine ev_aload_n dX1_init_9 0 rfl rfl ?_
  refine ev_bp dX1_init_10 rfl ?_
  obtain ⟨s2, g, hD⟩ := bd hD
  refine ew_newa 0 dX1_init_12 rfl rfl (by decide +kernel) (by decide +kernel) w_203 g ?_
  obtain ⟨s3, g, hD⟩ := bd hD
  refine ew_putR 1 1 dX1_init_14 rfl (Nat.le_of_ble_eq_true rfl) w_214 in_X1 tyX1_ok nmX1 (Or.inr ⟨rfl, rfl⟩) rfl g ?_
  cases hD
  exact ev_ret none dX1_init_17 True.intro
theorem ct_X1_init {G : mG} {x0 : Nat} {σ : mS} {R : mS} (hD : D_X1_init x0 σ = some R) : Ct G M_X1_init [vr x0] σ (.inl none) R := ct_of rfl (by decide +kernel) rfl (Nat.le_of_ble_eq_true rfl) rfl (lk_X1_init hD)
def D_X1_copyFrom (x0 : Nat) (x1 : Nat) (σ : mS) : Option mS :=
  (gI σ x1 1 0).bind fun v1 =>
  (pI σ x0 1 0 v1).bind fun s2 =>
  (gR s2 x1 1 1).bind fun v3 =>
  (gR s2 x0 1 1).bind fun v4 =>
  (cpI s2 v3 v4 6).bind fun s5 =>
  some s5
set_option maxRecDepth 100000 in
set_option maxHeartbeats 4000000 in
theorem lk_X1_copyFrom {G : mG} {x0 : Nat} {x1 : Nat} {σ : mS} {R : mS} (hD : D_X1_copyFrom x0 x1 σ = some R) : Ev G M_X1_copyFrom 0 [(0, vr x0), (1, vr x1)] [] σ (.inl none) R := by
  unfold D_X1_copyFrom at hD
  refine ev_aload_n dX1_copyFrom_0 0 rfl rfl ?_
  refine ev_aload_n dX1_copyFrom_1 1 rfl rfl ?_
  obtain ⟨v1, g, hD⟩ := bd hD
  refine ew_getI 1 0 dX1_copyFrom_2 rfl (Nat.le_of_ble_eq_true rfl) w_209 in_X1 rfl g ?_
  obtain ⟨s2, g, hD⟩ := bd hD
  refine ew_putI 1 0 dX1_copyFrom_5 rfl (Nat.le_of_ble_eq_true rfl) w_209 in_X1 tyX1_ok nmX1 (Or.inl rfl) rfl g ?_
  refine ev_aload_n dX1_copyFrom_8 1 rfl rfl ?_
  obtain ⟨v3, g, hD⟩ := bd hD
  refine ew_getR 1 1 dX1_copyFrom_9 rfl (Nat.le_of_ble_eq_true rfl) w_214 in_X1 rfl g ?_
  refine ev_iconst dX1_copyFrom_12 (mi_c rfl) ?_
  refine ev_aload_n dX1_copyFrom_13 0 rfl rfl ?_
  obtain ⟨v4, g, hD⟩ := bd hD
  refine ew_getR 1 1 dX1_copyFrom_14 rfl (Nat.le_of_ble_eq_true rfl) w_214 in_X1 rfl g ?_
  refine ev_iconst dX1_copyFrom_17 (mi_c rfl) ?_
  refine ev_bp dX1_copyFrom_18 rfl ?_
  obtain ⟨s5, g, hD⟩ := bd hD
  refine ew_copyI dX1_copyFrom_20 w_657 w_525 w_524 w_134 (Nat.le_of_ble_eq_true rfl) (Nat.le_of_ble_eq_true rfl) (Nat.le_of_ble_eq_true rfl) g ?_
  cases hD
  exact ev_ret none dX1_copyFrom_23 True.intro
theorem ct_X1_copyFrom {G : mG} {x0 : Nat} {x1 : Nat} {σ : mS} {R : mS} (hD : D_X1_copyFrom x0 x1 σ = some R) : Ct G M_X1_copyFrom [vr x0, vr x1] σ (.inl none) R := ct_of rfl (by decide +kernel) rfl (Nat.le_of_ble_eq_true rfl) rfl (lk_X1_copyFrom hD)
