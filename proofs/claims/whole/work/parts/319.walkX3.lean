def D_X3_copyFrom (x0 : Nat) (x1 : Nat) (σ : mS) : Option mS :=
  (gI σ x1 3 0).bind fun v1 =>
  (pI σ x0 3 0 v1).bind fun s2 =>
  (gI s2 x1 3 1).bind fun v3 =>
  (pI s2 x0 3 1 v3).bind fun s4 =>
  (gI s4 x1 3 2).bind fun v5 =>
  (pI s4 x0 3 2 v5).bind fun s6 =>
  (gI s6 x1 3 3).bind fun v7 =>
  (pI s6 x0 3 3 v7).bind fun s8 =>
  (gI s8 x1 3 4).bind fun v9 =>
  (pI s8 x0 3 4 v9).bind fun s10 =>
  some s10
set_option maxRecDepth 100000 in
set_option maxHeartbeats 4000000 in
theorem lk_X3_copyFrom {G : mG} {x0 : Nat} {x1 : Nat} {σ : mS} {R : mS} (hD : D_X3_copyFrom x0 x1 σ = some R) : Ev G M_X3_copyFrom 0 [(0, vr x0), (1, vr x1)] [] σ (.inl none) R := by
  unfold D_X3_copyFrom at hD
  refine ev_aload_n dX3_copyFrom_0 0 rfl rfl ?_
  refine ev_aload_n dX3_copyFrom_1 1 rfl rfl ?_
  obtain ⟨v1, g, hD⟩ := bd hD
  refine ew_getI 3 0 dX3_copyFrom_2 rfl (Nat.le_of_ble_eq_true rfl) w_229 in_X3 rfl g ?_
  obtain ⟨s2, g, hD⟩ := bd hD
  refine ew_putI 3 0 dX3_copyFrom_5 rfl (Nat.le_of_ble_eq_true rfl) w_229 in_X3 tyX3_ok nmX3 (Or.inl rfl) rfl g ?_
  refine ev_aload_n dX3_copyFrom_8 0 rfl rfl ?_
  refine ev_aload_n dX3_copyFrom_9 1 rfl rfl ?_
  obtain ⟨v3, g, hD⟩ := bd hD
  refine ew_getI 3 1 dX3_copyFrom_10 rfl (Nat.le_of_ble_eq_true rfl) w_234 in_X3 rfl g ?_
  obtain ⟨s4, g, hD⟩ := bd hD
  refine ew_putI 3 1 dX3_copyFrom_13 rfl (Nat.le_of_ble_eq_true rfl) w_234 in_X3 tyX3_ok nmX3 (Or.inl rfl) rfl g ?_
  refine ev_aload_n dX3_copyFrom_16 0 rfl rfl ?_
  refine ev_aload_n dX3_copyFrom_17 1 rfl rfl ?_
  obtain ⟨v5, g, hD⟩ := bd hD
  refine ew_getI 3 2 dX3_copyFrom_18 rfl (Nat.le_of_ble_eq_true rfl) w_239 in_X3 rfl g ?_
  obtain ⟨s6, g, hD⟩ := bd hD
  refine ew_putI 3 2 dX3_copyFrom_21 rfl (Nat.le_of_ble_eq_true rfl) w_239 in_X3 tyX3_ok nmX3 (Or.inl rfl) rfl g ?_
  refine ev_aload_n dX3_copyFrom_24 0 rfl rfl ?_
  refine ev_aload_n dX3_copyFrom_25 1 rfl rfl ?_
  obtain ⟨v7, g, hD⟩ := bd hD
  refine ew_getI 3 3 dX3_copyFrom_26 rfl (Nat.le_of_ble_eq_true rfl) w_244 in_X3 rfl g ?_
  obtain ⟨s8, g, hD⟩ := bd hD
  refine ew_putI 3 3 dX3_copyFrom_29 rfl (Nat.le_of_ble_eq_true rfl) w_244 in_X3 tyX3_ok nmX3 (Or.inl rfl) rfl g ?_
  refine ev_aload_n dX3_copyFrom_32 0 rfl rfl ?_
  refine ev_aload_n dX3_copyFrom_33 1 rfl rfl ?_
  obtain ⟨v9, g, hD⟩ := bd hD
  refine ew_getI 3 4 dX3_copyFrom_34 rfl (Nat.le_of_ble_eq_true rfl) w_249 in_X3 rfl g ?_
  obtain ⟨s10, g, hD⟩ := bd hD
  refine ew_putI 3 4 dX3_copyFrom_37 rfl (Nat.le_of_ble_eq_true rfl) w_249 in_X3 tyX3_ok nmX3 (Or.inl rfl) rfl g ?_
  cases hD
  exact ev_ret none dX3_copyFrom_40 True.intro
theorem ct_X3_copyFrom {G : mG} {x0 : Nat} {x1 : Nat} {σ : mS} {R : mS} (hD : D_X3_copyFrom x0 x1 σ = some R) : Ct G M_X3_copyFrom [vr x0, vr x1] σ (.inl none) R := ct_of rfl (by decide +kernel) rfl (Nat.le_of_ble_eq_true rfl) rfl (lk_X3_copyFrom hD)
