def D_X5_addRule (x0 : Nat) (x1 : Int) (x2 : Int) (x3 : Int) (x4 : Int) (x5 : Int) (σ : mS) : Option mS :=
  (gI σ x0 5 5).bind fun v1 =>
  if v1 < 24 then
    (gR σ x0 5 10).bind fun v2 =>
    (gI σ x0 5 5).bind fun v3 =>
    (lR σ v2 v3).bind fun v4 =>
    (pI σ v4 3 0 x1).bind fun s5 =>
    (pI s5 v4 3 1 x2).bind fun s6 =>
    (pI s6 v4 3 2 x3).bind fun s7 =>
    (pI s7 v4 3 3 x4).bind fun s8 =>
    (pI s8 v4 3 4 x5).bind fun s9 =>
    (gI s9 x0 5 5).bind fun v10 =>
    (pI s9 x0 5 5 (mw (v10 + 1))).bind fun s11 =>
    some s11
  else
    some σ
set_option maxRecDepth 100000 in
set_option maxHeartbeats 4000000 in
theorem lk_X5_addRule {G : mG} {x0 : Nat} {x1 : Int} {x2 : Int} {x3 : Int} {x4 : Int} {x5 : Int} {σ : mS} {R : mS} (hD : D_X5_addRule x0 x1 x2 x3 x4 x5 σ = some R) : Ev G M_X5_addRule 0 [(0, vr x0), (1, vi x1), (2, vi x2), (3, vi x3), (4, vi x4), (5, vi x5)] [] σ (.inl none) R := by
  unfold D_X5_addRule at hD
  refine ev_aload_n dX5_addRule_0 0 rfl rfl ?_
  obtain ⟨v1, g, hD⟩ := bd hD
  refine ew_getI 5 5 dX5_addRule_1 rfl (Nat.le_of_ble_eq_true rfl) w_283 in_X5 rfl g ?_
  refine ev_bp dX5_addRule_4 rfl ?_
  by_cases c : v1 < 24
  · rw [if_pos c] at hD
    refine ev_icmp_lt_t (tgt := 10) dX5_addRule_6 (by decide) c ?_
    refine ev_aload_n dX5_addRule_10 0 rfl rfl ?_
    obtain ⟨v2, g, hD⟩ := bd hD
    refine ew_getR 5 10 dX5_addRule_11 rfl (Nat.le_of_ble_eq_true rfl) w_303 in_X5 rfl g ?_
    refine ev_aload_n dX5_addRule_14 0 rfl rfl ?_
    obtain ⟨v3, g, hD⟩ := bd hD
    refine ew_getI 5 5 dX5_addRule_15 rfl (Nat.le_of_ble_eq_true rfl) w_283 in_X5 rfl g ?_
    obtain ⟨v4, g, hD⟩ := bd hD
    refine ew_aald dX5_addRule_18 g ?_
    refine ev_astore dX5_addRule_19 (Nat.le_of_ble_eq_true rfl) rfl ?_
    refine ev_aload dX5_addRule_21 0 rfl ?_
    refine ev_iload_n dX5_addRule_23 2 rfl rfl ?_
    obtain ⟨s5, g, hD⟩ := bd hD
    refine ew_putI 3 0 dX5_addRule_24 rfl (Nat.le_of_ble_eq_true rfl) w_230 in_X3 tyX3_ok nmX3 (Or.inl rfl) rfl g ?_
    refine ev_aload dX5_addRule_27 0 rfl ?_
    refine ev_iload_n dX5_addRule_29 3 rfl rfl ?_
    obtain ⟨s6, g, hD⟩ := bd hD
    refine ew_putI 3 1 dX5_addRule_30 rfl (Nat.le_of_ble_eq_true rfl) w_235 in_X3 tyX3_ok nmX3 (Or.inl rfl) rfl g ?_
    refine ev_aload dX5_addRule_33 0 rfl ?_
    refine ev_iload_n dX5_addRule_35 4 rfl rfl ?_
    obtain ⟨s7, g, hD⟩ := bd hD
    refine ew_putI 3 2 dX5_addRule_36 rfl (Nat.le_of_ble_eq_true rfl) w_240 in_X3 tyX3_ok nmX3 (Or.inl rfl) rfl g ?_
    refine ev_aload dX5_addRule_39 0 rfl ?_
    refine ev_iload dX5_addRule_41 5 rfl ?_
    obtain ⟨s8, g, hD⟩ := bd hD
    refine ew_putI 3 3 dX5_addRule_43 rfl (Nat.le_of_ble_eq_true rfl) w_245 in_X3 tyX3_ok nmX3 (Or.inl rfl) rfl g ?_
    refine ev_aload dX5_addRule_46 0 rfl ?_
    refine ev_iload dX5_addRule_48 6 rfl ?_
    obtain ⟨s9, g, hD⟩ := bd hD
    refine ew_putI 3 4 dX5_addRule_50 rfl (Nat.le_of_ble_eq_true rfl) w_250 in_X3 tyX3_ok nmX3 (Or.inl rfl) rfl g ?_
    refine ev_aload_n dX5_addRule_53 1 rfl rfl ?_
    refine ev_dup dX5_addRule_54 rfl ?_
    obtain ⟨v10, g, hD⟩ := bd hD
    refine ew_getI 5 5 dX5_addRule_55 rfl (Nat.le_of_ble_eq_true rfl) w_283 in_X5 rfl g ?_
    refine ev_iconst dX5_addRule_58 (mi_c rfl) ?_
    refine ev_iadd dX5_addRule_59 ?_
    obtain ⟨s11, g, hD⟩ := bd hD
    refine ew_putI 5 5 dX5_addRule_60 rfl (Nat.le_of_ble_eq_true rfl) w_283 in_X5 tyX5_ok nmX5 (Or.inl rfl) rfl g ?_
    cases hD
    exact ev_ret none dX5_addRule_63 True.intro
  · rw [if_neg c] at hD
    refine ev_icmp_lt_f 10 dX5_addRule_6 (by decide) c ?_
    cases hD
    exact ev_ret none dX5_addRule_9 True.intro
theorem ct_X5_addRule {G : mG} {x0 : Nat} {x1 : Int} {x2 : Int} {x3 : Int} {x4 : Int} {x5 : Int} {σ : mS} {R : mS} (hD : D_X5_addRule x0 x1 x2 x3 x4 x5 σ = some R) : Ct G M_X5_addRule [vr x0, vi x1, vi x2, vi x3, vi x4, vi x5] σ (.inl none) R := ct_of rfl (by decide +kernel) rfl (Nat.le_of_ble_eq_true rfl) rfl (lk_X5_addRule hD)
