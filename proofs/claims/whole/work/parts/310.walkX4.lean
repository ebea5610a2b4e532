def D_X4_init (x0 : Nat) (σ : mS) : Option mS :=
  (tgN x0).bind fun _ =>
  (pB σ x0 4 0 0).bind fun s1 =>
  (pI s1 x0 4 1 0).bind fun s2 =>
  (pI s2 x0 4 2 0).bind fun s3 =>
  (nwA s3 0 6).bind fun s4 =>
  (pR s4 x0 4 3 (32 + mN s3)).bind fun s5 =>
  (nwA s5 0 6).bind fun s6 =>
  (pR s6 x0 4 4 (32 + mN s5)).bind fun s7 =>
  some s7
set_option maxRecDepth 100000 in
set_option maxHeartbeats 4000000 in
theorem lk_X4_init {G : mG} {x0 : Nat} {σ : mS} {R : mS} (hD : D_X4_init x0 σ = some R) : Ev G M_X4_init 0 [(0, vr x0)] [] σ (.inl none) R := by
  unfold D_X4_init at hD
  refine ev_aload_n dX4_init_0 0 rfl rfl ?_
  obtain ⟨_, g, hD⟩ := bd hD
  refine ew_objInit dX4_init_1 w_173 w_objI w_objC (Nat.le_of_ble_eq_true rfl) (Nat.le_of_ble_eq_true rfl) (Nat.le_of_ble_eq_true rfl) g ?_
  refine ev_aload_n dX4_init_4 0 rfl rfl ?_
  refine ev_iconst dX4_init_5 (mi_c rfl) ?_
  obtain ⟨s1, g, hD⟩ := bd hD
  refine ew_putB 4 0 dX4_init_6 rfl (Nat.le_of_ble_eq_true rfl) w_174 in_X4 tyX4_ok nmX4 (Or.inl rfl) rfl g ?_
  refine ev_aload_n dX4_init_9 0 rfl rfl ?_
  refine ev_iconst dX4_init_10 (mi_c rfl) ?_
  obtain ⟨s2, g, hD⟩ := bd hD
  refine ew_putI 4 1 dX4_init_11 rfl (Nat.le_of_ble_eq_true rfl) w_178 in_X4 tyX4_ok nmX4 (Or.inl rfl) rfl g ?_
  refine ev_aload_n dX4_init_14 0 rfl rfl ?_
  refine ev_iconst dX4_init_15 (mi_c rfl) ?_
  obtain ⟨s3, g, hD⟩ := bd hD
  refine ew_putI 4 2 dX4_init_16 rfl (Nat.le_of_ble_eq_true rfl) w_182 in_X4 tyX4_ok nmX4 (Or.inl rfl) rfl g ?_
  refine ev_aload_n dX4_init_19 0 rfl rfl ?_
  refine ev_bp dX4_init_20 rfl ?_
  obtain ⟨s4, g, hD⟩ := bd hD
  refine ew_newa 0 dX4_init_22 rfl rfl (by decide +kernel) (by decide +kernel) w_203 g ?_
  obtain ⟨s5, g, hD⟩ := bd hD
  refine ew_putR 4 3 dX4_init_24 rfl (Nat.le_of_ble_eq_true rfl) w_186 in_X4 tyX4_ok nmX4 (Or.inr ⟨rfl, rfl⟩) rfl g ?_
  refine ev_aload_n dX4_init_27 0 rfl rfl ?_
  refine ev_bp dX4_init_28 rfl ?_
  obtain ⟨s6, g, hD⟩ := bd hD
  refine ew_newa 0 dX4_init_30 rfl rfl (by decide +kernel) (by decide +kernel) w_203 g ?_
  obtain ⟨s7, g, hD⟩ := bd hD
  refine ew_putR 4 4 dX4_init_32 rfl (Nat.le_of_ble_eq_true rfl) w_189 in_X4 tyX4_ok nmX4 (Or.inr ⟨rfl, rfl⟩) rfl g ?_
  cases hD
  exact ev_ret none dX4_init_35 True.intro
theorem ct_X4_init {G : mG} {x0 : Nat} {σ : mS} {R : mS} (hD : D_X4_init x0 σ = some R) : Ct G M_X4_init [vr x0] σ (.inl none) R := ct_of rfl (by decide +kernel) rfl (Nat.le_of_ble_eq_true rfl) rfl (lk_X4_init hD)
