def D_X5_forget (x0 : Nat) (σ : mS) : Option mS :=
  (pI σ x0 5 0 1).bind fun s1 =>
  (pI s1 x0 5 1 0).bind fun s2 =>
  (pI s2 x0 5 2 0).bind fun s3 =>
  (pI s3 x0 5 3 0).bind fun s4 =>
  (pI s4 x0 5 4 0).bind fun s5 =>
  (pI s5 x0 5 5 0).bind fun s6 =>
  some s6
set_option maxRecDepth 100000 in
set_option maxHeartbeats 4000000 in
theorem lk_X5_forget {G : mG} {x0 : Nat} {σ : mS} {R : mS} (hD : D_X5_forget x0 σ = some R) : Ev G M_X5_forget 0 [(0, vr x0)] [] σ (.inl none) R := by
  unfold D_X5_forget at hD
  refine ev_aload_n dX5_forget_0 0 rfl rfl ?_
  refine ev_iconst dX5_forget_1 (mi_c rfl) ?_
  obtain ⟨s1, g, hD⟩ := bd hD
  refine ew_putI 5 0 dX5_forget_2 rfl (Nat.le_of_ble_eq_true rfl) w_265 in_X5 tyX5_ok nmX5 (Or.inl rfl) rfl g ?_
  refine ev_aload_n dX5_forget_5 0 rfl rfl ?_
  refine ev_iconst dX5_forget_6 (mi_c rfl) ?_
  obtain ⟨s2, g, hD⟩ := bd hD
  refine ew_putI 5 1 dX5_forget_7 rfl (Nat.le_of_ble_eq_true rfl) w_268 in_X5 tyX5_ok nmX5 (Or.inl rfl) rfl g ?_
  refine ev_aload_n dX5_forget_10 0 rfl rfl ?_
  refine ev_iconst dX5_forget_11 (mi_c rfl) ?_
  obtain ⟨s3, g, hD⟩ := bd hD
  refine ew_putI 5 2 dX5_forget_12 rfl (Nat.le_of_ble_eq_true rfl) w_272 in_X5 tyX5_ok nmX5 (Or.inl rfl) rfl g ?_
  refine ev_aload_n dX5_forget_15 0 rfl rfl ?_
  refine ev_iconst dX5_forget_16 (mi_c rfl) ?_
  obtain ⟨s4, g, hD⟩ := bd hD
  refine ew_putI 5 3 dX5_forget_17 rfl (Nat.le_of_ble_eq_true rfl) w_275 in_X5 tyX5_ok nmX5 (Or.inl rfl) rfl g ?_
  refine ev_aload_n dX5_forget_20 0 rfl rfl ?_
  refine ev_iconst dX5_forget_21 (mi_c rfl) ?_
  obtain ⟨s5, g, hD⟩ := bd hD
  refine ew_putI 5 4 dX5_forget_22 rfl (Nat.le_of_ble_eq_true rfl) w_280 in_X5 tyX5_ok nmX5 (Or.inl rfl) rfl g ?_
  refine ev_aload_n dX5_forget_25 0 rfl rfl ?_
  refine ev_iconst dX5_forget_26 (mi_c rfl) ?_
  obtain ⟨s6, g, hD⟩ := bd hD
  refine ew_putI 5 5 dX5_forget_27 rfl (Nat.le_of_ble_eq_true rfl) w_283 in_X5 tyX5_ok nmX5 (Or.inl rfl) rfl g ?_
  cases hD
  exact ev_ret none dX5_forget_30 True.intro
theorem ct_X5_forget {G : mG} {x0 : Nat} {σ : mS} {R : mS} (hD : D_X5_forget x0 σ = some R) : Ct G M_X5_forget [vr x0] σ (.inl none) R := ct_of rfl (by decide +kernel) rfl (Nat.le_of_ble_eq_true rfl) rfl (lk_X5_forget hD)
