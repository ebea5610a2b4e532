def D_X4_copyFrom (x0 : Nat) (x1 : Nat) (σ : mS) : Option mS :=
  (gI σ x1 4 0).bind fun v1 =>
  (pB σ x0 4 0 v1).bind fun s2 =>
  (gI s2 x1 4 1).bind fun v3 =>
  (pI s2 x0 4 1 v3).bind fun s4 =>
  (gI s4 x1 4 2).bind fun v5 =>
  (pI s4 x0 4 2 v5).bind fun s6 =>
  (gR s6 x1 4 3).bind fun v7 =>
  (gR s6 x0 4 3).bind fun v8 =>
  (cpI s6 v7 v8 6).bind fun s9 =>
  (gR s9 x1 4 4).bind fun v10 =>
  (gR s9 x0 4 4).bind fun v11 =>
  (cpI s9 v10 v11 6).bind fun s12 =>
  some s12
set_option maxRecDepth 100000 in
set_option maxHeartbeats 4000000 in
theorem lk_X4_copyFrom {G : mG} {x0 : Nat} {x1 : Nat} {σ : mS} {R : mS} (hD : D_X4_copyFrom x0 x1 σ = some R) : Ev G M_X4_copyFrom 0 [(0, vr x0), (1, vr x1)] [] σ (.inl none) R := by
  unfold D_X4_copyFrom at hD
  refine ev_aload_n dX4_copyFrom_0 0 rfl rfl ?_
  refine ev_aload_n dX4_copyFrom_1 1 rfl rfl ?_
  obtain ⟨v1, g, hD⟩ := bd hD
  refine ew_getI 4 0 dX4_copyFrom_2 rfl (Nat.le_of_ble_eq_true rfl) w_174 in_X4 rfl g ?_
  obtain ⟨s2, g, hD⟩ := bd hD
  refine ew_putB 4 0 dX4_copyFrom_5 rfl (Nat.le_of_ble_eq_true rfl) w_174 in_X4 tyX4_ok nmX4 (Or.inl rfl) rfl g ?_
  refine ev_aload_n dX4_copyFrom_8 0 rfl rfl ?_
  refine ev_aload_n dX4_copyFrom_9 1 rfl rfl ?_
  obtain ⟨v3, g, hD⟩ := bd hD
  refine ew_getI 4 1 dX4_copyFrom_10 rfl (Nat.le_of_ble_eq_true rfl) w_178 in_X4 rfl g ?_
  obtain ⟨s4, g, hD⟩ := bd hD
  refine ew_putI 4 1 dX4_copyFrom_13 rfl (Nat.le_of_ble_eq_true rfl) w_178 in_X4 tyX4_ok nmX4 (Or.inl rfl) rfl g ?_
  refine ev_aload_n dX4_copyFrom_16 0 rfl rfl ?_
  refine ev_aload_n dX4_copyFrom_17 1 rfl rfl ?_
  obtain ⟨v5, g, hD⟩ := bd hD
  refine ew_getI 4 2 dX4_copyFrom_18 rfl (Nat.le_of_ble_eq_true rfl) w_182 in_X4 rfl g ?_
  obtain ⟨s6, g, hD⟩ := bd hD
  refine ew_putI 4 2 dX4_copyFrom_21 rfl (Nat.le_of_ble_eq_true rfl) w_182 in_X4 tyX4_ok nmX4 (Or.inl rfl) rfl g ?_
  refine ev_aload_n dX4_copyFrom_24 1 rfl rfl ?_
  obtain ⟨v7, g, hD⟩ := bd hD
  refine ew_getR 4 3 dX4_copyFrom_25 rfl (Nat.le_of_ble_eq_true rfl) w_186 in_X4 rfl g ?_
  refine ev_iconst dX4_copyFrom_28 (mi_c rfl) ?_
  refine ev_aload_n dX4_copyFrom_29 0 rfl rfl ?_
  obtain ⟨v8, g, hD⟩ := bd hD
  refine ew_getR 4 3 dX4_copyFrom_30 rfl (Nat.le_of_ble_eq_true rfl) w_186 in_X4 rfl g ?_
  refine ev_iconst dX4_copyFrom_33 (mi_c rfl) ?_
  refine ev_bp dX4_copyFrom_34 rfl ?_
  obtain ⟨s9, g, hD⟩ := bd hD
  refine ew_copyI dX4_copyFrom_36 w_652 w_525 w_524 w_134 (Nat.le_of_ble_eq_true rfl) (Nat.le_of_ble_eq_true rfl) (Nat.le_of_ble_eq_true rfl) g ?_
  refine ev_aload_n dX4_copyFrom_39 1 rfl rfl ?_
  obtain ⟨v10, g, hD⟩ := bd hD
  refine ew_getR 4 4 dX4_copyFrom_40 rfl (Nat.le_of_ble_eq_true rfl) w_189 in_X4 rfl g ?_
  refine ev_iconst dX4_copyFrom_43 (mi_c rfl) ?_
  refine ev_aload_n dX4_copyFrom_44 0 rfl rfl ?_
  obtain ⟨v11, g, hD⟩ := bd hD
  refine ew_getR 4 4 dX4_copyFrom_45 rfl (Nat.le_of_ble_eq_true rfl) w_189 in_X4 rfl g ?_
  refine ev_iconst dX4_copyFrom_48 (mi_c rfl) ?_
  refine ev_bp dX4_copyFrom_49 rfl ?_
  obtain ⟨s12, g, hD⟩ := bd hD
  refine ew_copyI dX4_copyFrom_51 w_652 w_525 w_524 w_134 (Nat.le_of_ble_eq_true rfl) (Nat.le_of_ble_eq_true rfl) (Nat.le_of_ble_eq_true rfl) g ?_
  cases hD
  exact ev_ret none dX4_copyFrom_54 True.intro
theorem ct_X4_copyFrom {G : mG} {x0 : Nat} {x1 : Nat} {σ : mS} {R : mS} (hD : D_X4_copyFrom x0 x1 σ = some R) : Ct G M_X4_copyFrom [vr x0, vr x1] σ (.inl none) R := ct_of rfl (by decide +kernel) rfl (Nat.le_of_ble_eq_true rfl) rfl (lk_X4_copyFrom hD)
