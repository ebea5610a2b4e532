def D_X3_init (x0 : Nat) (σ : mS) : Option mS :=
  (tgN x0).bind fun _ =>
  (pI σ x0 3 0 0).bind fun s1 =>
  (pI s1 x0 3 1 0).bind fun s2 =>
  (pI s2 x0 3 2 ((-1))).bind fun s3 =>
  (pI s3 x0 3 3 0).bind fun s4 =>
  (pI s4 x0 3 4 ((-1))).bind fun s5 =>
  some s5
set_option maxRecDepth 100000 in
set_option maxHeartbeats 4000000 in
theorem lk_X3_init {G : mG} {x0 : Nat} {σ : mS} {R : mS} (hD : D_X3_init x0 σ = some R) : Ev G M_X3_init 0 [(0, vr x0)] [] σ (.inl none) R := by
  unfold D_X3_init at hD
  refine ev_aload_n dX3_init_0 0 rfl rfl ?_
  obtain ⟨_, g, hD⟩ := bd hD
  refine ew_objInit dX3_init_1 w_228 w_objI w_objC (Nat.le_of_ble_eq_true rfl) (Nat.le_of_ble_eq_true rfl) (Nat.le_of_ble_eq_true rfl) g ?_
  refine ev_aload_n dX3_init_4 0 rfl rfl ?_
  refine ev_iconst dX3_init_5 (mi_c rfl) ?_
  obtain ⟨s1, g, hD⟩ := bd hD
  refine ew_putI 3 0 dX3_init_6 rfl (Nat.le_of_ble_eq_true rfl) w_229 in_X3 tyX3_ok nmX3 (Or.inl rfl) rfl g ?_
  refine ev_aload_n dX3_init_9 0 rfl rfl ?_
  refine ev_iconst dX3_init_10 (mi_c rfl) ?_
  obtain ⟨s2, g, hD⟩ := bd hD
  refine ew_putI 3 1 dX3_init_11 rfl (Nat.le_of_ble_eq_true rfl) w_234 in_X3 tyX3_ok nmX3 (Or.inl rfl) rfl g ?_
  refine ev_aload_n dX3_init_14 0 rfl rfl ?_
  refine ev_iconst dX3_init_15 (mi_c rfl) ?_
  obtain ⟨s3, g, hD⟩ := bd hD
  refine ew_putI 3 2 dX3_init_16 rfl (Nat.le_of_ble_eq_true rfl) w_239 in_X3 tyX3_ok nmX3 (Or.inl rfl) rfl g ?_
  refine ev_aload_n dX3_init_19 0 rfl rfl ?_
  refine ev_iconst dX3_init_20 (mi_c rfl) ?_
  obtain ⟨s4, g, hD⟩ := bd hD
  refine ew_putI 3 3 dX3_init_21 rfl (Nat.le_of_ble_eq_true rfl) w_244 in_X3 tyX3_ok nmX3 (Or.inl rfl) rfl g ?_
  refine ev_aload_n dX3_init_24 0 rfl rfl ?_
  refine ev_iconst dX3_init_25 (mi_c rfl) ?_
  obtain ⟨s5, g, hD⟩ := bd hD
  refine ew_putI 3 4 dX3_init_26 rfl (Nat.le_of_ble_eq_true rfl) w_249 in_X3 tyX3_ok nmX3 (Or.inl rfl) rfl g ?_
  cases hD
  exact ev_ret none dX3_init_29 True.intro
theorem ct_X3_init {G : mG} {x0 : Nat} {σ : mS} {R : mS} (hD : D_X3_init x0 σ = some R) : Ct G M_X3_init [vr x0] σ (.inl none) R := ct_of rfl (by decide +kernel) rfl (Nat.le_of_ble_eq_true rfl) rfl (lk_X3_init hD)
