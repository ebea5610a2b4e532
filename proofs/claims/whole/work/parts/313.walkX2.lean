def D_X2_init (x0 : Nat) (x1 : Nat) (σ : mS) : Option mS :=
  (tgN x0).bind fun _ =>
  (nwO σ 5 11).bind fun s1 =>
  (tgN (32 + mN σ)).bind fun _ =>
  (D_X5_init (32 + mN σ) s1).bind fun r2 =>
  (pR r2 x0 2 0 (32 + mN σ)).bind fun s3 =>
  (pI s3 x0 2 1 0).bind fun s4 =>
  (pI s4 x0 2 2 ((-1))).bind fun s5 =>
  (pI s5 x0 2 4 0).bind fun s6 =>
  (pI s6 x0 2 5 0).bind fun s7 =>
  (pI s7 x0 2 6 0).bind fun s8 =>
  (pI s8 x0 2 7 0).bind fun s9 =>
  (pB s9 x0 2 8 0).bind fun s10 =>
  (pB s10 x0 2 9 0).bind fun s11 =>
  (nwA s11 0 12).bind fun s12 =>
  (pR s12 x0 2 10 (32 + mN s11)).bind fun s13 =>
  (nwA s13 0 4).bind fun s14 =>
  (pR s14 x0 2 11 (32 + mN s13)).bind fun s15 =>
  (pR s15 x0 2 3 x1).bind fun s16 =>
  some s16
set_option maxRecDepth 100000 in
set_option maxHeartbeats 4000000 in
theorem lk_X2_init {G : mG} {x0 : Nat} {x1 : Nat} {σ : mS} {R : mS} (hD : D_X2_init x0 x1 σ = some R) : Ev G M_X2_init 0 [(0, vr x0), (1, vr x1)] [] σ (.inl none) R := by
  unfold D_X2_init at hD
  refine ev_aload_n dX2_init_0 0 rfl rfl ?_
  obtain ⟨_, g, hD⟩ := bd hD
  refine ew_objInit dX2_init_1 w_336 w_objI w_objC (Nat.le_of_ble_eq_true rfl) (Nat.le_of_ble_eq_true rfl) (Nat.le_of_ble_eq_true rfl) g ?_
  refine ev_aload_n dX2_init_4 0 rfl rfl ?_
  obtain ⟨s1, g, hD⟩ := bd hD
  refine ew_new 5 dX2_init_5 rfl in_X5 tyX5_ok dv_X5 w_337 w_158 w_125 g ?_
  refine ev_dup dX2_init_8 rfl ?_
  obtain ⟨_, g0, hD⟩ := bd hD
  obtain ⟨r2, g, hD⟩ := bd hD
  refine ew_callI (as := []) (a := (32 + mN σ)) (rest := [vr (32 + mN σ), vr x0]) dX2_init_9 v_X5_init w_338 rfl (Nat.le_of_ble_eq_true rfl) g0 (Nat.le_of_ble_eq_true rfl) (Nat.le_of_ble_eq_true rfl) (ct_X5_init g) ?_
  obtain ⟨s3, g, hD⟩ := bd hD
  refine ew_putR 2 0 dX2_init_12 rfl (Nat.le_of_ble_eq_true rfl) w_339 in_X2 tyX2_ok nmX2 (Or.inr ⟨rfl, rfl⟩) rfl g ?_
  refine ev_aload_n dX2_init_15 0 rfl rfl ?_
  refine ev_iconst dX2_init_16 (mi_c rfl) ?_
  obtain ⟨s4, g, hD⟩ := bd hD
  refine ew_putI 2 1 dX2_init_17 rfl (Nat.le_of_ble_eq_true rfl) w_341 in_X2 tyX2_ok nmX2 (Or.inl rfl) rfl g ?_
  refine ev_aload_n dX2_init_20 0 rfl rfl ?_
  refine ev_iconst dX2_init_21 (mi_c rfl) ?_
  obtain ⟨s5, g, hD⟩ := bd hD
  refine ew_putI 2 2 dX2_init_22 rfl (Nat.le_of_ble_eq_true rfl) w_343 in_X2 tyX2_ok nmX2 (Or.inl rfl) rfl g ?_
  refine ev_aload_n dX2_init_25 0 rfl rfl ?_
  refine ev_iconst dX2_init_26 (mi_c rfl) ?_
  obtain ⟨s6, g, hD⟩ := bd hD
  refine ew_putI 2 4 dX2_init_27 rfl (Nat.le_of_ble_eq_true rfl) w_346 in_X2 tyX2_ok nmX2 (Or.inl rfl) rfl g ?_
  refine ev_aload_n dX2_init_30 0 rfl rfl ?_
  refine ev_iconst dX2_init_31 (mi_c rfl) ?_
  obtain ⟨s7, g, hD⟩ := bd hD
  refine ew_putI 2 5 dX2_init_32 rfl (Nat.le_of_ble_eq_true rfl) w_347 in_X2 tyX2_ok nmX2 (Or.inl rfl) rfl g ?_
  refine ev_aload_n dX2_init_35 0 rfl rfl ?_
  refine ev_iconst dX2_init_36 (mi_c rfl) ?_
  obtain ⟨s8, g, hD⟩ := bd hD
  refine ew_putI 2 6 dX2_init_37 rfl (Nat.le_of_ble_eq_true rfl) w_348 in_X2 tyX2_ok nmX2 (Or.inl rfl) rfl g ?_
  refine ev_aload_n dX2_init_40 0 rfl rfl ?_
  refine ev_iconst dX2_init_41 (mi_c rfl) ?_
  obtain ⟨s9, g, hD⟩ := bd hD
  refine ew_putI 2 7 dX2_init_42 rfl (Nat.le_of_ble_eq_true rfl) w_349 in_X2 tyX2_ok nmX2 (Or.inl rfl) rfl g ?_
  refine ev_aload_n dX2_init_45 0 rfl rfl ?_
  refine ev_iconst dX2_init_46 (mi_c rfl) ?_
  obtain ⟨s10, g, hD⟩ := bd hD
  refine ew_putB 2 8 dX2_init_47 rfl (Nat.le_of_ble_eq_true rfl) w_350 in_X2 tyX2_ok nmX2 (Or.inl rfl) rfl g ?_
  refine ev_aload_n dX2_init_50 0 rfl rfl ?_
  refine ev_iconst dX2_init_51 (mi_c rfl) ?_
  obtain ⟨s11, g, hD⟩ := bd hD
  refine ew_putB 2 9 dX2_init_52 rfl (Nat.le_of_ble_eq_true rfl) w_351 in_X2 tyX2_ok nmX2 (Or.inl rfl) rfl g ?_
  refine ev_aload_n dX2_init_55 0 rfl rfl ?_
  refine ev_bp dX2_init_56 rfl ?_
  obtain ⟨s12, g, hD⟩ := bd hD
  refine ew_newa 0 dX2_init_58 rfl rfl (by decide +kernel) (by decide +kernel) w_203 g ?_
  obtain ⟨s13, g, hD⟩ := bd hD
  refine ew_putR 2 10 dX2_init_60 rfl (Nat.le_of_ble_eq_true rfl) w_352 in_X2 tyX2_ok nmX2 (Or.inr ⟨rfl, rfl⟩) rfl g ?_
  refine ev_aload_n dX2_init_63 0 rfl rfl ?_
  refine ev_iconst dX2_init_64 (mi_c rfl) ?_
  obtain ⟨s14, g, hD⟩ := bd hD
  refine ew_newa 0 dX2_init_65 rfl rfl (by decide +kernel) (by decide +kernel) w_203 g ?_
  obtain ⟨s15, g, hD⟩ := bd hD
  refine ew_putR 2 11 dX2_init_67 rfl (Nat.le_of_ble_eq_true rfl) w_353 in_X2 tyX2_ok nmX2 (Or.inr ⟨rfl, rfl⟩) rfl g ?_
  refine ev_aload_n dX2_init_70 0 rfl rfl ?_
  refine ev_aload_n dX2_init_71 1 rfl rfl ?_
  obtain ⟨s16, g, hD⟩ := bd hD
  refine ew_putR 2 3 dX2_init_72 rfl (Nat.le_of_ble_eq_true rfl) w_345 in_X2 tyX2_ok nmX2 (Or.inr ⟨rfl, rfl⟩) rfl g ?_
  cases hD
  exact ev_ret none dX2_init_75 True.intro
theorem ct_X2_init {G : mG} {x0 : Nat} {x1 : Nat} {σ : mS} {R : mS} (hD : D_X2_init x0 x1 σ = some R) : Ct G M_X2_init [vr x0, vr x1] σ (.inl none) R := ct_of rfl (by decide +kernel) rfl (Nat.le_of_ble_eq_true rfl) rfl (lk_X2_init hD)
