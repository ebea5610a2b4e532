def D_X6_init (x0 : Nat) (x1 : Nat) (x2 : Nat) (σ : mS) : Option mS :=
  (tgN x0).bind fun _ =>
  (nwA σ 0 12).bind fun s1 =>
  (pR s1 x0 6 0 (32 + mN σ)).bind fun s2 =>
  (pB s2 x0 6 1 0).bind fun s3 =>
  (pI s3 x0 6 2 0).bind fun s4 =>
  (pI s4 x0 6 3 0).bind fun s5 =>
  (nwM s5 9 0 12 12).bind fun s6 =>
  (pR s6 x0 6 6 (32 + mN s5)).bind fun s7 =>
  (nwM s7 9 0 12 12).bind fun s8 =>
  (pR s8 x0 6 7 (32 + mN s7)).bind fun s9 =>
  (pR s9 x0 6 4 x1).bind fun s10 =>
  (pR s10 x0 6 5 x2).bind fun s11 =>
  some s11
set_option maxRecDepth 100000 in
set_option maxHeartbeats 4000000 in
theorem lk_X6_init {G : mG} {x0 : Nat} {x1 : Nat} {x2 : Nat} {σ : mS} {R : mS} (hD : D_X6_init x0 x1 x2 σ = some R) : Ev G M_X6_init 0 [(0, vr x0), (1, vr x1), (2, vr x2)] [] σ (.inl none) R := by
  unfold D_X6_init at hD
  refine ev_aload_n dX6_init_0 0 rfl rfl ?_
  obtain ⟨_, g, hD⟩ := bd hD
  refine ew_objInit dX6_init_1 w_449 w_objI w_objC (Nat.le_of_ble_eq_true rfl) (Nat.le_of_ble_eq_true rfl) (Nat.le_of_ble_eq_true rfl) g ?_
  refine ev_aload_n dX6_init_4 0 rfl rfl ?_
  refine ev_bp dX6_init_5 rfl ?_
  obtain ⟨s1, g, hD⟩ := bd hD
  refine ew_newa 0 dX6_init_7 rfl rfl (by decide +kernel) (by decide +kernel) w_203 g ?_
  obtain ⟨s2, g, hD⟩ := bd hD
  refine ew_putR 6 0 dX6_init_9 rfl (Nat.le_of_ble_eq_true rfl) w_452 in_X6 tyX6_ok nmX6 (Or.inr ⟨rfl, rfl⟩) rfl g ?_
  refine ev_aload_n dX6_init_12 0 rfl rfl ?_
  refine ev_iconst dX6_init_13 (mi_c rfl) ?_
  obtain ⟨s3, g, hD⟩ := bd hD
  refine ew_putB 6 1 dX6_init_14 rfl (Nat.le_of_ble_eq_true rfl) w_454 in_X6 tyX6_ok nmX6 (Or.inl rfl) rfl g ?_
  refine ev_aload_n dX6_init_17 0 rfl rfl ?_
  refine ev_iconst dX6_init_18 (mi_c rfl) ?_
  obtain ⟨s4, g, hD⟩ := bd hD
  refine ew_putI 6 2 dX6_init_19 rfl (Nat.le_of_ble_eq_true rfl) w_456 in_X6 tyX6_ok nmX6 (Or.inl rfl) rfl g ?_
  refine ev_aload_n dX6_init_22 0 rfl rfl ?_
  refine ev_iconst dX6_init_23 (mi_c rfl) ?_
  obtain ⟨s5, g, hD⟩ := bd hD
  refine ew_putI 6 3 dX6_init_24 rfl (Nat.le_of_ble_eq_true rfl) w_458 in_X6 tyX6_ok nmX6 (Or.inl rfl) rfl g ?_
  refine ev_aload_n dX6_init_27 0 rfl rfl ?_
  refine ev_bp dX6_init_28 rfl ?_
  refine ev_bp dX6_init_30 rfl ?_
  obtain ⟨s6, g, hD⟩ := bd hD
  refine ew_mnew 9 0 dX6_init_32 rfl rfl w_450 w_t451 w_203 g ?_
  obtain ⟨s7, g, hD⟩ := bd hD
  refine ew_putR 6 6 dX6_init_36 rfl (Nat.le_of_ble_eq_true rfl) w_462 in_X6 tyX6_ok nmX6 (Or.inr ⟨rfl, rfl⟩) rfl g ?_
  refine ev_aload_n dX6_init_39 0 rfl rfl ?_
  refine ev_bp dX6_init_40 rfl ?_
  refine ev_bp dX6_init_42 rfl ?_
  obtain ⟨s8, g, hD⟩ := bd hD
  refine ew_mnew 9 0 dX6_init_44 rfl rfl w_450 w_t451 w_203 g ?_
  obtain ⟨s9, g, hD⟩ := bd hD
  refine ew_putR 6 7 dX6_init_48 rfl (Nat.le_of_ble_eq_true rfl) w_463 in_X6 tyX6_ok nmX6 (Or.inr ⟨rfl, rfl⟩) rfl g ?_
  refine ev_aload_n dX6_init_51 0 rfl rfl ?_
  refine ev_aload_n dX6_init_52 1 rfl rfl ?_
  obtain ⟨s10, g, hD⟩ := bd hD
  refine ew_putR 6 4 dX6_init_53 rfl (Nat.le_of_ble_eq_true rfl) w_460 in_X6 tyX6_ok nmX6 (Or.inr ⟨rfl, rfl⟩) rfl g ?_
  refine ev_aload_n dX6_init_56 0 rfl rfl ?_
  refine ev_aload_n dX6_init_57 2 rfl rfl ?_
  obtain ⟨s11, g, hD⟩ := bd hD
  refine ew_putR 6 5 dX6_init_58 rfl (Nat.le_of_ble_eq_true rfl) w_461 in_X6 tyX6_ok nmX6 (Or.inr ⟨rfl, rfl⟩) rfl g ?_
  cases hD
  exact ev_ret none dX6_init_61 True.intro
theorem ct_X6_init {G : mG} {x0 : Nat} {x1 : Nat} {x2 : Nat} {σ : mS} {R : mS} (hD : D_X6_init x0 x1 x2 σ = some R) : Ct G M_X6_init [vr x0, vr x1, vr x2] σ (.inl none) R := ct_of rfl (by decide +kernel) rfl (Nat.le_of_ble_eq_true rfl) rfl (lk_X6_init hD)
def D_X6_bind_97 (σ : mS) : Option mS :=
  some σ
set_option maxRecDepth 100000 in
set_option maxHeartbeats 4000000 in
theorem lk_X6_bind_97 {G : mG} {σ : mS} {R : mS} (hD : D_X6_bind_97  σ = some R) : Ev G M_X6_bind 97 [] [] σ (.inl none) R := by
  unfold D_X6_bind_97 at hD
  cases hD
  exact ev_ret none dX6_bind_97 True.intro
def D_X6_bind (x0 : Nat) (x1 : Int) (x2 : Int) (x3 : Int) (x4 : Int) (σ : mS) : Option mS :=
  if x2 ≤ x1 then
    if x1 ≤ x2 then
      D_X6_bind_97  σ
    else
      (gR σ x0 6 6).bind fun v1 =>
      (lR σ v1 x1).bind fun v2 =>
      (gR σ x0 6 6).bind fun v3 =>
      (lR σ v3 x1).bind fun v4 =>
      (lI σ v4 x2).bind fun v5 =>
      (sI σ v2 x2 (if v5 < (mw (-x4)) then (mw (-x4)) else v5)).bind fun s6 =>
      (gR s6 x0 6 7).bind fun v7 =>
      (lR s6 v7 x1).bind fun v8 =>
      (gR s6 x0 6 7).bind fun v9 =>
      (lR s6 v9 x1).bind fun v10 =>
      (lI s6 v10 x2).bind fun v11 =>
      (sI s6 v8 x2 (if (mw (-x3)) < v11 then (mw (-x3)) else v11)).bind fun s12 =>
      D_X6_bind_97  s12
  else
    (gR σ x0 6 6).bind fun v13 =>
    (lR σ v13 x2).bind fun v14 =>
    (gR σ x0 6 6).bind fun v15 =>
    (lR σ v15 x2).bind fun v16 =>
    (lI σ v16 x1).bind fun v17 =>
    (sI σ v14 x1 (if v17 < x3 then x3 else v17)).bind fun s18 =>
    (gR s18 x0 6 7).bind fun v19 =>
    (lR s18 v19 x2).bind fun v20 =>
    (gR s18 x0 6 7).bind fun v21 =>
    (lR s18 v21 x2).bind fun v22 =>
    (lI s18 v22 x1).bind fun v23 =>
    (sI s18 v20 x1 (if x4 < v23 then x4 else v23)).bind fun s24 =>
    D_X6_bind_97  s24
set_option maxRecDepth 100000 in
set_option maxHeartbeats 4000000 in
theorem lk_X6_bind {G : mG} {x0 : Nat} {x1 : Int} {x2 : Int} {x3 : Int} {x4 : Int} {σ : mS} {R : mS} (hD : D_X6_bind x0 x1 x2 x3 x4 σ = some R) : Ev G M_X6_bind 0 [(0, vr x0), (1, vi x1), (2, vi x2), (3, vi x3), (4, vi x4)] [] σ (.inl none) R := by
  unfold D_X6_bind at hD
  refine ev_iload_n dX6_bind_0 1 rfl rfl ?_
  refine ev_iload_n dX6_bind_1 2 rfl rfl ?_
  by_cases c : x2 ≤ x1
  · rw [if_pos c] at hD
    refine ev_icmp_ge_t (tgt := 49) dX6_bind_2 (by decide) c ?_
    refine ev_iload_n dX6_bind_49 1 rfl rfl ?_
    refine ev_iload_n dX6_bind_50 2 rfl rfl ?_
    by_cases c : x1 ≤ x2
    · rw [if_pos c] at hD
      refine ev_icmp_le_t (tgt := 97) dX6_bind_51 (by decide) c ?_
      refine Ev.pick [] rfl ?_
      exact lk_X6_bind_97 hD
    · rw [if_neg c] at hD
      refine ev_icmp_le_f 97 dX6_bind_51 (by decide) c ?_
      refine ev_aload_n dX6_bind_54 0 rfl rfl ?_
      obtain ⟨v1, g, hD⟩ := bd hD
      refine ew_getR 6 6 dX6_bind_55 rfl (Nat.le_of_ble_eq_true rfl) w_462 in_X6 rfl g ?_
      refine ev_iload_n dX6_bind_58 1 rfl rfl ?_
      obtain ⟨v2, g, hD⟩ := bd hD
      refine ew_aald dX6_bind_59 g ?_
      refine ev_iload_n dX6_bind_60 2 rfl rfl ?_
      refine ev_aload_n dX6_bind_61 0 rfl rfl ?_
      obtain ⟨v3, g, hD⟩ := bd hD
      refine ew_getR 6 6 dX6_bind_62 rfl (Nat.le_of_ble_eq_true rfl) w_462 in_X6 rfl g ?_
      refine ev_iload_n dX6_bind_65 1 rfl rfl ?_
      obtain ⟨v4, g, hD⟩ := bd hD
      refine ew_aald dX6_bind_66 g ?_
      refine ev_iload_n dX6_bind_67 2 rfl rfl ?_
      obtain ⟨v5, g, hD⟩ := bd hD
      refine ew_iald dX6_bind_68 g ?_
      refine ev_iload dX6_bind_69 4 rfl ?_
      refine ev_ineg dX6_bind_71 ?_
      refine ev_mmax dX6_bind_72 w_1230 w_569 w_133 w_570 (Nat.le_of_ble_eq_true rfl) (Nat.le_of_ble_eq_true rfl) (Nat.le_of_ble_eq_true rfl) ?_
      obtain ⟨s6, g, hD⟩ := bd hD
      refine ew_iast dX6_bind_75 g ?_
      refine ev_aload_n dX6_bind_76 0 rfl rfl ?_
      obtain ⟨v7, g, hD⟩ := bd hD
      refine ew_getR 6 7 dX6_bind_77 rfl (Nat.le_of_ble_eq_true rfl) w_463 in_X6 rfl g ?_
      refine ev_iload_n dX6_bind_80 1 rfl rfl ?_
      obtain ⟨v8, g, hD⟩ := bd hD
      refine ew_aald dX6_bind_81 g ?_
      refine ev_iload_n dX6_bind_82 2 rfl rfl ?_
      refine ev_aload_n dX6_bind_83 0 rfl rfl ?_
      obtain ⟨v9, g, hD⟩ := bd hD
      refine ew_getR 6 7 dX6_bind_84 rfl (Nat.le_of_ble_eq_true rfl) w_463 in_X6 rfl g ?_
      refine ev_iload_n dX6_bind_87 1 rfl rfl ?_
      obtain ⟨v10, g, hD⟩ := bd hD
      refine ew_aald dX6_bind_88 g ?_
      refine ev_iload_n dX6_bind_89 2 rfl rfl ?_
      obtain ⟨v11, g, hD⟩ := bd hD
      refine ew_iald dX6_bind_90 g ?_
      refine ev_iload_n dX6_bind_91 3 rfl rfl ?_
      refine ev_ineg dX6_bind_92 ?_
      refine ev_mmin dX6_bind_93 w_1231 w_572 w_133 w_573 (Nat.le_of_ble_eq_true rfl) (Nat.le_of_ble_eq_true rfl) (Nat.le_of_ble_eq_true rfl) ?_
      obtain ⟨s12, g, hD⟩ := bd hD
      refine ew_iast dX6_bind_96 g ?_
      refine Ev.pick [] rfl ?_
      exact lk_X6_bind_97 hD
  · rw [if_neg c] at hD
    refine ev_icmp_ge_f 49 dX6_bind_2 (by decide) c ?_
    refine ev_aload_n dX6_bind_5 0 rfl rfl ?_
    obtain ⟨v13, g, hD⟩ := bd hD
    refine ew_getR 6 6 dX6_bind_6 rfl (Nat.le_of_ble_eq_true rfl) w_462 in_X6 rfl g ?_
    refine ev_iload_n dX6_bind_9 2 rfl rfl ?_
    obtain ⟨v14, g, hD⟩ := bd hD
    refine ew_aald dX6_bind_10 g ?_
    refine ev_iload_n dX6_bind_11 1 rfl rfl ?_
    refine ev_aload_n dX6_bind_12 0 rfl rfl ?_
    obtain ⟨v15, g, hD⟩ := bd hD
    refine ew_getR 6 6 dX6_bind_13 rfl (Nat.le_of_ble_eq_true rfl) w_462 in_X6 rfl g ?_
    refine ev_iload_n dX6_bind_16 2 rfl rfl ?_
    obtain ⟨v16, g, hD⟩ := bd hD
    refine ew_aald dX6_bind_17 g ?_
    refine ev_iload_n dX6_bind_18 1 rfl rfl ?_
    obtain ⟨v17, g, hD⟩ := bd hD
    refine ew_iald dX6_bind_19 g ?_
    refine ev_iload_n dX6_bind_20 3 rfl rfl ?_
    refine ev_mmax dX6_bind_21 w_1230 w_569 w_133 w_570 (Nat.le_of_ble_eq_true rfl) (Nat.le_of_ble_eq_true rfl) (Nat.le_of_ble_eq_true rfl) ?_
    obtain ⟨s18, g, hD⟩ := bd hD
    refine ew_iast dX6_bind_24 g ?_
    refine ev_aload_n dX6_bind_25 0 rfl rfl ?_
    obtain ⟨v19, g, hD⟩ := bd hD
    refine ew_getR 6 7 dX6_bind_26 rfl (Nat.le_of_ble_eq_true rfl) w_463 in_X6 rfl g ?_
    refine ev_iload_n dX6_bind_29 2 rfl rfl ?_
    obtain ⟨v20, g, hD⟩ := bd hD
    refine ew_aald dX6_bind_30 g ?_
    refine ev_iload_n dX6_bind_31 1 rfl rfl ?_
    refine ev_aload_n dX6_bind_32 0 rfl rfl ?_
    obtain ⟨v21, g, hD⟩ := bd hD
    refine ew_getR 6 7 dX6_bind_33 rfl (Nat.le_of_ble_eq_true rfl) w_463 in_X6 rfl g ?_
    refine ev_iload_n dX6_bind_36 2 rfl rfl ?_
    obtain ⟨v22, g, hD⟩ := bd hD
    refine ew_aald dX6_bind_37 g ?_
    refine ev_iload_n dX6_bind_38 1 rfl rfl ?_
    obtain ⟨v23, g, hD⟩ := bd hD
    refine ew_iald dX6_bind_39 g ?_
    refine ev_iload dX6_bind_40 4 rfl ?_
    refine ev_mmin dX6_bind_42 w_1231 w_572 w_133 w_573 (Nat.le_of_ble_eq_true rfl) (Nat.le_of_ble_eq_true rfl) (Nat.le_of_ble_eq_true rfl) ?_
    obtain ⟨s24, g, hD⟩ := bd hD
    refine ew_iast dX6_bind_45 g ?_
    refine ev_goto (tgt := 97) dX6_bind_46 (by decide) ?_
    refine Ev.pick [] rfl ?_
    exact lk_X6_bind_97 hD
theorem ct_X6_bind {G : mG} {x0 : Nat} {x1 : Int} {x2 : Int} {x3 : Int} {x4 : Int} {σ : mS} {R : mS} (hD : D_X6_bind x0 x1 x2 x3 x4 σ = some R) : Ct G M_X6_bind [vr x0, vi x1, vi x2, vi x3, vi x4] σ (.inl none) R := ct_of rfl (by decide +kernel) rfl (Nat.le_of_ble_eq_true rfl) rfl (lk_X6_bind hD)
def D_X6_bindInOrder_15 : Nat → Nat → Nat → Nat → Int → Int → Int → mS → Option mS
  | 0, _, _, _, _, _, _, _ => none
  | f + 1, x0, x1, x2, x3, x4, x5, σ =>
    (gI σ x2 1 0).bind fun v1 =>
    if v1 ≤ x5 then
      some σ
    else
      (gR σ x1 1 1).bind fun v2 =>
      (lI σ v2 x4).bind fun v3 =>
      (gR σ x2 1 1).bind fun v4 =>
      (lI σ v4 x5).bind fun v5 =>
      (tgO σ x0 6).bind fun _ =>
      (D_X6_bind x0 v3 v5 x3 999 σ).bind fun r6 =>
      (D_X6_bindInOrder_15 f) x0 x1 x2 x3 x4 (mw (x5 + 1)) r6
set_option maxRecDepth 100000 in
set_option maxHeartbeats 4000000 in
theorem lk_X6_bindInOrder_15 {G : mG} (f : Nat) : ∀ {x0 : Nat} {x1 : Nat} {x2 : Nat} {x3 : Int} {x4 : Int} {x5 : Int} {σ : mS} {R : mS}, D_X6_bindInOrder_15 f x0 x1 x2 x3 x4 x5 σ = some R → ∀ {r : mX} {τ : mS}, Ev G M_X6_bindInOrder 52 [(0, vr x0), (1, vr x1), (2, vr x2), (3, vi x3), (4, vi x4)] [] R r τ → Ev G M_X6_bindInOrder 15 [(0, vr x0), (1, vr x1), (2, vr x2), (3, vi x3), (4, vi x4), (5, vi x5)] [] σ r τ := by
  induction f with
  | zero =>
    intros
    rename_i hD _ _ _
    cases hD
  | succ f ih =>
    intro x0 x1 x2 x3 x4 x5 σ R hD r τ hk
    have hrec := @ih
    rw [D_X6_bindInOrder_15] at hD
    refine ev_iload dX6_bindInOrder_15 5 rfl ?_
    refine ev_aload_n dX6_bindInOrder_17 2 rfl rfl ?_
    obtain ⟨v1, g, hD⟩ := bd hD
    refine ew_getI 1 0 dX6_bindInOrder_18 rfl (Nat.le_of_ble_eq_true rfl) w_210 in_X1 rfl g ?_
    by_cases c : v1 ≤ x5
    · rw [if_pos c] at hD
      refine ev_icmp_ge_t (tgt := 52) dX6_bindInOrder_21 (by decide) c ?_
      cases hD
      refine Ev.pick [0, 1, 2, 3, 4] rfl ?_
      exact hk
    · rw [if_neg c] at hD
      refine ev_icmp_ge_f 52 dX6_bindInOrder_21 (by decide) c ?_
      refine ev_aload_n dX6_bindInOrder_24 0 rfl rfl ?_
      refine ev_aload_n dX6_bindInOrder_25 1 rfl rfl ?_
      obtain ⟨v2, g, hD⟩ := bd hD
      refine ew_getR 1 1 dX6_bindInOrder_26 rfl (Nat.le_of_ble_eq_true rfl) w_215 in_X1 rfl g ?_
      refine ev_iload dX6_bindInOrder_29 4 rfl ?_
      obtain ⟨v3, g, hD⟩ := bd hD
      refine ew_iald dX6_bindInOrder_31 g ?_
      refine ev_aload_n dX6_bindInOrder_32 2 rfl rfl ?_
      obtain ⟨v4, g, hD⟩ := bd hD
      refine ew_getR 1 1 dX6_bindInOrder_33 rfl (Nat.le_of_ble_eq_true rfl) w_215 in_X1 rfl g ?_
      refine ev_iload dX6_bindInOrder_36 5 rfl ?_
      obtain ⟨v5, g, hD⟩ := bd hD
      refine ew_iald dX6_bindInOrder_38 g ?_
      refine ev_iload_n dX6_bindInOrder_39 3 rfl rfl ?_
      refine ev_sp dX6_bindInOrder_40 rfl ?_
      obtain ⟨_, g0, hD⟩ := bd hD
      obtain ⟨r6, g, hD⟩ := bd hD
      refine ew_callV0 (as := [vi v3, vi v5, vi x3, vi 999]) (a := x0) (rest := []) dX6_bindInOrder_43 v_X6_bind w_1226 rfl (Nat.le_of_ble_eq_true rfl) rfl rfl g0 (Nat.le_of_ble_eq_true rfl) (Nat.le_of_ble_eq_true rfl) (ct_X6_bind g) ?_
      refine ev_iinc dX6_bindInOrder_46 5 rfl (Nat.le_of_ble_eq_true rfl) rfl ?_
      refine ev_goto (tgt := 15) dX6_bindInOrder_49 (by decide) ?_
      refine Ev.pick [1, 2, 3, 4, 5, 0] rfl ?_
      exact hrec hD hk
def D_X6_bindInOrder_3 : Nat → Nat → Nat → Nat → Int → Int → mS → Option mS
  | 0, _, _, _, _, _, _ => none
  | f + 1, x0, x1, x2, x3, x4, σ =>
    (gI σ x1 1 0).bind fun v1 =>
    if v1 ≤ x4 then
      some σ
    else
      (D_X6_bindInOrder_15 mFU x0 x1 x2 x3 x4 0 σ).bind fun r2 =>
      (D_X6_bindInOrder_3 f) x0 x1 x2 x3 (mw (x4 + 1)) r2
set_option maxRecDepth 100000 in
set_option maxHeartbeats 4000000 in
theorem lk_X6_bindInOrder_3 {G : mG} (f : Nat) : ∀ {x0 : Nat} {x1 : Nat} {x2 : Nat} {x3 : Int} {x4 : Int} {σ : mS} {R : mS}, D_X6_bindInOrder_3 f x0 x1 x2 x3 x4 σ = some R → ∀ {r : mX} {τ : mS}, Ev G M_X6_bindInOrder 58 [] [] R r τ → Ev G M_X6_bindInOrder 3 [(0, vr x0), (1, vr x1), (2, vr x2), (3, vi x3), (4, vi x4)] [] σ r τ := by
  induction f with
  | zero =>
    intros
    rename_i hD _ _ _
    cases hD
  | succ f ih =>
    intro x0 x1 x2 x3 x4 σ R hD r τ hk
    have hrec := @ih
    rw [D_X6_bindInOrder_3] at hD
    refine ev_iload dX6_bindInOrder_3 4 rfl ?_
    refine ev_aload_n dX6_bindInOrder_5 1 rfl rfl ?_
    obtain ⟨v1, g, hD⟩ := bd hD
    refine ew_getI 1 0 dX6_bindInOrder_6 rfl (Nat.le_of_ble_eq_true rfl) w_210 in_X1 rfl g ?_
    by_cases c : v1 ≤ x4
    · rw [if_pos c] at hD
      refine ev_icmp_ge_t (tgt := 58) dX6_bindInOrder_9 (by decide) c ?_
      cases hD
      refine Ev.pick [] rfl ?_
      exact hk
    · rw [if_neg c] at hD
      refine ev_icmp_ge_f 58 dX6_bindInOrder_9 (by decide) c ?_
      refine ev_iconst dX6_bindInOrder_12 (mi_c rfl) ?_
      refine ev_istore dX6_bindInOrder_13 (Nat.le_of_ble_eq_true rfl) rfl ?_
      obtain ⟨r2, g, hD⟩ := bd hD
      refine Ev.pick [1, 2, 3, 4, 5, 0] rfl ?_
      refine lk_X6_bindInOrder_15 mFU g ?_
      refine ev_iinc dX6_bindInOrder_52 4 rfl (Nat.le_of_ble_eq_true rfl) rfl ?_
      refine ev_goto (tgt := 3) dX6_bindInOrder_55 (by decide) ?_
      refine Ev.pick [1, 2, 3, 4, 0] rfl ?_
      exact hrec hD hk
def D_X6_bindInOrder (x0 : Nat) (x1 : Nat) (x2 : Nat) (x3 : Int) (σ : mS) : Option mS :=
  (D_X6_bindInOrder_3 mFU x0 x1 x2 x3 0 σ).bind fun r1 =>
  some r1
set_option maxRecDepth 100000 in
set_option maxHeartbeats 4000000 in
theorem lk_X6_bindInOrder {G : mG} {x0 : Nat} {x1 : Nat} {x2 : Nat} {x3 : Int} {σ : mS} {R : mS} (hD : D_X6_bindInOrder x0 x1 x2 x3 σ = some R) : Ev G M_X6_bindInOrder 0 [(0, vr x0), (1, vr x1), (2, vr x2), (3, vi x3)] [] σ (.inl none) R := by
  unfold D_X6_bindInOrder at hD
  refine ev_iconst dX6_bindInOrder_0 (mi_c rfl) ?_
  refine ev_istore dX6_bindInOrder_1 (Nat.le_of_ble_eq_true rfl) rfl ?_
  obtain ⟨r1, g, hD⟩ := bd hD
  refine Ev.pick [1, 2, 3, 4, 0] rfl ?_
  refine lk_X6_bindInOrder_3 mFU g ?_
  cases hD
  exact ev_ret none dX6_bindInOrder_58 True.intro
theorem ct_X6_bindInOrder {G : mG} {x0 : Nat} {x1 : Nat} {x2 : Nat} {x3 : Int} {σ : mS} {R : mS} (hD : D_X6_bindInOrder x0 x1 x2 x3 σ = some R) : Ct G M_X6_bindInOrder [vr x0, vr x1, vr x2, vi x3] σ (.inl none) R := ct_of rfl (by decide +kernel) rfl (Nat.le_of_ble_eq_true rfl) rfl (lk_X6_bindInOrder hD)
def D_X6_bindTogether_15 : Nat → Nat → Nat → Int → Int → Int → mS → Option mS
  | 0, _, _, _, _, _, _ => none
  | f + 1, x0, x1, x2, x3, x4, σ =>
    (gI σ x1 1 0).bind fun v1 =>
    if v1 ≤ x4 then
      some σ
    else
      (gR σ x1 1 1).bind fun v2 =>
      (lI σ v2 x3).bind fun v3 =>
      (gR σ x1 1 1).bind fun v4 =>
      (lI σ v4 x4).bind fun v5 =>
      (tgO σ x0 6).bind fun _ =>
      (D_X6_bind x0 v3 v5 (mw (-x2)) x2 σ).bind fun r6 =>
      (D_X6_bindTogether_15 f) x0 x1 x2 x3 (mw (x4 + 1)) r6
set_option maxRecDepth 100000 in
set_option maxHeartbeats 4000000 in
theorem lk_X6_bindTogether_15 {G : mG} (f : Nat) : ∀ {x0 : Nat} {x1 : Nat} {x2 : Int} {x3 : Int} {x4 : Int} {σ : mS} {R : mS}, D_X6_bindTogether_15 f x0 x1 x2 x3 x4 σ = some R → ∀ {r : mX} {τ : mS}, Ev G M_X6_bindTogether 50 [(0, vr x0), (1, vr x1), (2, vi x2), (3, vi x3)] [] R r τ → Ev G M_X6_bindTogether 15 [(0, vr x0), (1, vr x1), (2, vi x2), (3, vi x3), (4, vi x4)] [] σ r τ := by
  induction f with
  | zero =>
    intros
    rename_i hD _ _ _
    cases hD
  | succ f ih =>
    intro x0 x1 x2 x3 x4 σ R hD r τ hk
    have hrec := @ih
    rw [D_X6_bindTogether_15] at hD
    refine ev_iload dX6_bindTogether_15 4 rfl ?_
    refine ev_aload_n dX6_bindTogether_17 1 rfl rfl ?_
    obtain ⟨v1, g, hD⟩ := bd hD
    refine ew_getI 1 0 dX6_bindTogether_18 rfl (Nat.le_of_ble_eq_true rfl) w_210 in_X1 rfl g ?_
    by_cases c : v1 ≤ x4
    · rw [if_pos c] at hD
      refine ev_icmp_ge_t (tgt := 50) dX6_bindTogether_21 (by decide) c ?_
      cases hD
      refine Ev.pick [0, 1, 2, 3] rfl ?_
      exact hk
    · rw [if_neg c] at hD
      refine ev_icmp_ge_f 50 dX6_bindTogether_21 (by decide) c ?_
      refine ev_aload_n dX6_bindTogether_24 0 rfl rfl ?_
      refine ev_aload_n dX6_bindTogether_25 1 rfl rfl ?_
      obtain ⟨v2, g, hD⟩ := bd hD
      refine ew_getR 1 1 dX6_bindTogether_26 rfl (Nat.le_of_ble_eq_true rfl) w_215 in_X1 rfl g ?_
      refine ev_iload_n dX6_bindTogether_29 3 rfl rfl ?_
      obtain ⟨v3, g, hD⟩ := bd hD
      refine ew_iald dX6_bindTogether_30 g ?_
      refine ev_aload_n dX6_bindTogether_31 1 rfl rfl ?_
      obtain ⟨v4, g, hD⟩ := bd hD
      refine ew_getR 1 1 dX6_bindTogether_32 rfl (Nat.le_of_ble_eq_true rfl) w_215 in_X1 rfl g ?_
      refine ev_iload dX6_bindTogether_35 4 rfl ?_
      obtain ⟨v5, g, hD⟩ := bd hD
      refine ew_iald dX6_bindTogether_37 g ?_
      refine ev_iload_n dX6_bindTogether_38 2 rfl rfl ?_
      refine ev_ineg dX6_bindTogether_39 ?_
      refine ev_iload_n dX6_bindTogether_40 2 rfl rfl ?_
      obtain ⟨_, g0, hD⟩ := bd hD
      obtain ⟨r6, g, hD⟩ := bd hD
      refine ew_callV0 (as := [vi v3, vi v5, vi (mw (-x2)), vi x2]) (a := x0) (rest := []) dX6_bindTogether_41 v_X6_bind w_1226 rfl (Nat.le_of_ble_eq_true rfl) rfl rfl g0 (Nat.le_of_ble_eq_true rfl) (Nat.le_of_ble_eq_true rfl) (ct_X6_bind g) ?_
      refine ev_iinc dX6_bindTogether_44 4 rfl (Nat.le_of_ble_eq_true rfl) rfl ?_
      refine ev_goto (tgt := 15) dX6_bindTogether_47 (by decide) ?_
      refine Ev.pick [1, 2, 3, 4, 0] rfl ?_
      exact hrec hD hk
def D_X6_bindTogether_2 : Nat → Nat → Nat → Int → Int → mS → Option mS
  | 0, _, _, _, _, _ => none
  | f + 1, x0, x1, x2, x3, σ =>
    (gI σ x1 1 0).bind fun v1 =>
    if v1 ≤ x3 then
      some σ
    else
      (D_X6_bindTogether_15 mFU x0 x1 x2 x3 (mw (x3 + 1)) σ).bind fun r2 =>
      (D_X6_bindTogether_2 f) x0 x1 x2 (mw (x3 + 1)) r2
set_option maxRecDepth 100000 in
set_option maxHeartbeats 4000000 in
theorem lk_X6_bindTogether_2 {G : mG} (f : Nat) : ∀ {x0 : Nat} {x1 : Nat} {x2 : Int} {x3 : Int} {σ : mS} {R : mS}, D_X6_bindTogether_2 f x0 x1 x2 x3 σ = some R → ∀ {r : mX} {τ : mS}, Ev G M_X6_bindTogether 56 [] [] R r τ → Ev G M_X6_bindTogether 2 [(0, vr x0), (1, vr x1), (2, vi x2), (3, vi x3)] [] σ r τ := by
  induction f with
  | zero =>
    intros
    rename_i hD _ _ _
    cases hD
  | succ f ih =>
    intro x0 x1 x2 x3 σ R hD r τ hk
    have hrec := @ih
    rw [D_X6_bindTogether_2] at hD
    refine ev_iload_n dX6_bindTogether_2 3 rfl rfl ?_
    refine ev_aload_n dX6_bindTogether_3 1 rfl rfl ?_
    obtain ⟨v1, g, hD⟩ := bd hD
    refine ew_getI 1 0 dX6_bindTogether_4 rfl (Nat.le_of_ble_eq_true rfl) w_210 in_X1 rfl g ?_
    by_cases c : v1 ≤ x3
    · rw [if_pos c] at hD
      refine ev_icmp_ge_t (tgt := 56) dX6_bindTogether_7 (by decide) c ?_
      cases hD
      refine Ev.pick [] rfl ?_
      exact hk
    · rw [if_neg c] at hD
      refine ev_icmp_ge_f 56 dX6_bindTogether_7 (by decide) c ?_
      refine ev_iload_n dX6_bindTogether_10 3 rfl rfl ?_
      refine ev_iconst dX6_bindTogether_11 (mi_c rfl) ?_
      refine ev_iadd dX6_bindTogether_12 ?_
      refine ev_istore dX6_bindTogether_13 (Nat.le_of_ble_eq_true rfl) rfl ?_
      obtain ⟨r2, g, hD⟩ := bd hD
      refine Ev.pick [1, 2, 3, 4, 0] rfl ?_
      refine lk_X6_bindTogether_15 mFU g ?_
      refine ev_iinc dX6_bindTogether_50 3 rfl (Nat.le_of_ble_eq_true rfl) rfl ?_
      refine ev_goto (tgt := 2) dX6_bindTogether_53 (by decide) ?_
      refine Ev.pick [1, 2, 3, 0] rfl ?_
      exact hrec hD hk
def D_X6_bindTogether (x0 : Nat) (x1 : Nat) (x2 : Int) (σ : mS) : Option mS :=
  (D_X6_bindTogether_2 mFU x0 x1 x2 0 σ).bind fun r1 =>
  some r1
set_option maxRecDepth 100000 in
set_option maxHeartbeats 4000000 in
theorem lk_X6_bindTogether {G : mG} {x0 : Nat} {x1 : Nat} {x2 : Int} {σ : mS} {R : mS} (hD : D_X6_bindTogether x0 x1 x2 σ = some R) : Ev G M_X6_bindTogether 0 [(0, vr x0), (1, vr x1), (2, vi x2)] [] σ (.inl none) R := by
  unfold D_X6_bindTogether at hD
  refine ev_iconst dX6_bindTogether_0 (mi_c rfl) ?_
  refine ev_istore_n dX6_bindTogether_1 rfl (Nat.le_of_ble_eq_true rfl) rfl ?_
  obtain ⟨r1, g, hD⟩ := bd hD
  refine Ev.pick [1, 2, 3, 0] rfl ?_
  refine lk_X6_bindTogether_2 mFU g ?_
  cases hD
  exact ev_ret none dX6_bindTogether_56 True.intro
theorem ct_X6_bindTogether {G : mG} {x0 : Nat} {x1 : Nat} {x2 : Int} {σ : mS} {R : mS} (hD : D_X6_bindTogether x0 x1 x2 σ = some R) : Ct G M_X6_bindTogether [vr x0, vr x1, vi x2] σ (.inl none) R := ct_of rfl (by decide +kernel) rfl (Nat.le_of_ble_eq_true rfl) rfl (lk_X6_bindTogether hD)
def D_X6_bindAll_15 : Nat → Nat → Int → Int → mS → Option mS
  | 0, _, _, _, _ => none
  | f + 1, x0, x1, x2, σ =>
    if x1 ≤ x2 then
      some σ
    else
      (gR σ x0 6 6).bind fun v1 =>
      (lR σ v1 x1).bind fun v2 =>
      (sI σ v2 x2 (-999)).bind fun s3 =>
      (gR s3 x0 6 7).bind fun v4 =>
      (lR s3 v4 x1).bind fun v5 =>
      (sI s3 v5 x2 999).bind fun s6 =>
      (D_X6_bindAll_15 f) x0 x1 (mw (x2 + 1)) s6
set_option maxRecDepth 100000 in
set_option maxHeartbeats 4000000 in
theorem lk_X6_bindAll_15 {G : mG} (f : Nat) : ∀ {x0 : Nat} {x1 : Int} {x2 : Int} {σ : mS} {R : mS}, D_X6_bindAll_15 f x0 x1 x2 σ = some R → ∀ {r : mX} {τ : mS}, Ev G M_X6_bindAll 48 [(0, vr x0), (1, vi x1)] [] R r τ → Ev G M_X6_bindAll 15 [(0, vr x0), (1, vi x1), (2, vi x2)] [] σ r τ := by
  induction f with
  | zero =>
    intros
    rename_i hD _ _ _
    cases hD
  | succ f ih =>
    intro x0 x1 x2 σ R hD r τ hk
    have hrec := @ih
    rw [D_X6_bindAll_15] at hD
    refine ev_iload_n dX6_bindAll_15 2 rfl rfl ?_
    refine ev_iload_n dX6_bindAll_16 1 rfl rfl ?_
    by_cases c : x1 ≤ x2
    · rw [if_pos c] at hD
      refine ev_icmp_ge_t (tgt := 48) dX6_bindAll_17 (by decide) c ?_
      cases hD
      refine Ev.pick [0, 1] rfl ?_
      exact hk
    · rw [if_neg c] at hD
      refine ev_icmp_ge_f 48 dX6_bindAll_17 (by decide) c ?_
      refine ev_aload_n dX6_bindAll_20 0 rfl rfl ?_
      obtain ⟨v1, g, hD⟩ := bd hD
      refine ew_getR 6 6 dX6_bindAll_21 rfl (Nat.le_of_ble_eq_true rfl) w_462 in_X6 rfl g ?_
      refine ev_iload_n dX6_bindAll_24 1 rfl rfl ?_
      obtain ⟨v2, g, hD⟩ := bd hD
      refine ew_aald dX6_bindAll_25 g ?_
      refine ev_iload_n dX6_bindAll_26 2 rfl rfl ?_
      refine ev_sp dX6_bindAll_27 rfl ?_
      obtain ⟨s3, g, hD⟩ := bd hD
      refine ew_iast dX6_bindAll_30 g ?_
      refine ev_aload_n dX6_bindAll_31 0 rfl rfl ?_
      obtain ⟨v4, g, hD⟩ := bd hD
      refine ew_getR 6 7 dX6_bindAll_32 rfl (Nat.le_of_ble_eq_true rfl) w_463 in_X6 rfl g ?_
      refine ev_iload_n dX6_bindAll_35 1 rfl rfl ?_
      obtain ⟨v5, g, hD⟩ := bd hD
      refine ew_aald dX6_bindAll_36 g ?_
      refine ev_iload_n dX6_bindAll_37 2 rfl rfl ?_
      refine ev_sp dX6_bindAll_38 rfl ?_
      obtain ⟨s6, g, hD⟩ := bd hD
      refine ew_iast dX6_bindAll_41 g ?_
      refine ev_iinc dX6_bindAll_42 2 rfl (Nat.le_of_ble_eq_true rfl) rfl ?_
      refine ev_goto (tgt := 15) dX6_bindAll_45 (by decide) ?_
      refine Ev.pick [1, 2, 0] rfl ?_
      exact hrec hD hk
def D_X6_bindAll_2 : Nat → Nat → Int → mS → Option mS
  | 0, _, _, _ => none
  | f + 1, x0, x1, σ =>
    (gR σ x0 6 4).bind fun v1 =>
    (gI σ v1 5 3).bind fun v2 =>
    if v2 ≤ x1 then
      some σ
    else
      (D_X6_bindAll_15 mFU x0 x1 0 σ).bind fun r3 =>
      (D_X6_bindAll_2 f) x0 (mw (x1 + 1)) r3
set_option maxRecDepth 100000 in
set_option maxHeartbeats 4000000 in
theorem lk_X6_bindAll_2 {G : mG} (f : Nat) : ∀ {x0 : Nat} {x1 : Int} {σ : mS} {R : mS}, D_X6_bindAll_2 f x0 x1 σ = some R → ∀ {r : mX} {τ : mS}, Ev G M_X6_bindAll 54 [(0, vr x0)] [] R r τ → Ev G M_X6_bindAll 2 [(0, vr x0), (1, vi x1)] [] σ r τ := by
  induction f with
  | zero =>
    intros
    rename_i hD _ _ _
    cases hD
  | succ f ih =>
    intro x0 x1 σ R hD r τ hk
    have hrec := @ih
    rw [D_X6_bindAll_2] at hD
    refine ev_iload_n dX6_bindAll_2 1 rfl rfl ?_
    refine ev_aload_n dX6_bindAll_3 0 rfl rfl ?_
    obtain ⟨v1, g, hD⟩ := bd hD
    refine ew_getR 6 4 dX6_bindAll_4 rfl (Nat.le_of_ble_eq_true rfl) w_460 in_X6 rfl g ?_
    obtain ⟨v2, g, hD⟩ := bd hD
    refine ew_getI 5 3 dX6_bindAll_7 rfl (Nat.le_of_ble_eq_true rfl) w_276 in_X5 rfl g ?_
    by_cases c : v2 ≤ x1
    · rw [if_pos c] at hD
      refine ev_icmp_ge_t (tgt := 54) dX6_bindAll_10 (by decide) c ?_
      cases hD
      refine Ev.pick [0] rfl ?_
      exact hk
    · rw [if_neg c] at hD
      refine ev_icmp_ge_f 54 dX6_bindAll_10 (by decide) c ?_
      refine ev_iconst dX6_bindAll_13 (mi_c rfl) ?_
      refine ev_istore_n dX6_bindAll_14 rfl (Nat.le_of_ble_eq_true rfl) rfl ?_
      obtain ⟨r3, g, hD⟩ := bd hD
      refine Ev.pick [1, 2, 0] rfl ?_
      refine lk_X6_bindAll_15 mFU g ?_
      refine ev_iinc dX6_bindAll_48 1 rfl (Nat.le_of_ble_eq_true rfl) rfl ?_
      refine ev_goto (tgt := 2) dX6_bindAll_51 (by decide) ?_
      refine Ev.pick [1, 0] rfl ?_
      exact hrec hD hk
def D_X6_bindAll_218 (rec : Nat → Int → mS → Option mS) (x0 : Nat) (x1 : Int) (σ : mS) : Option mS :=
  rec x0 (mw (x1 + 1)) σ
set_option maxRecDepth 100000 in
set_option maxHeartbeats 4000000 in
theorem lk_X6_bindAll_218 {G : mG} {rec : Nat → Int → mS → Option mS} {x0 : Nat} {x1 : Int} {σ : mS} {R : mS} {r : mX} {τ : mS} (hD : D_X6_bindAll_218 rec x0 x1 σ = some R) (hrec : ∀ {x0 : Nat} {x1 : Int} {σ : mS} {R : mS}, rec x0 x1 σ = some R → ∀ {r : mX} {τ : mS}, Ev G M_X6_bindAll 224 [] [] R r τ → Ev G M_X6_bindAll 56 [(0, vr x0), (1, vi x1)] [] σ r τ) (hk : Ev G M_X6_bindAll 224 [] [] R r τ) : Ev G M_X6_bindAll 218 [(0, vr x0), (1, vi x1)] [] σ r τ := by
  unfold D_X6_bindAll_218 at hD
  refine ev_iinc dX6_bindAll_218 1 rfl (Nat.le_of_ble_eq_true rfl) rfl ?_
  refine ev_goto (tgt := 56) dX6_bindAll_221 (by decide) ?_
  refine Ev.pick [1, 0] rfl ?_
  exact hrec hD hk
def D_X6_bindAll_56 : Nat → Nat → Int → mS → Option mS
  | 0, _, _, _ => none
  | f + 1, x0, x1, σ =>
    (gR σ x0 6 4).bind fun v1 =>
    (gI σ v1 5 5).bind fun v2 =>
    if v2 ≤ x1 then
      some σ
    else
      (gR σ x0 6 4).bind fun v3 =>
      (gR σ v3 5 10).bind fun v4 =>
      (lR σ v4 x1).bind fun v5 =>
      (gI σ v5 3 0).bind fun v6 =>
      if v6 = 0 then
        (gI σ v5 3 1).bind fun v7 =>
        (gI σ v5 3 2).bind fun v8 =>
        (gI σ v5 3 3).bind fun v9 =>
        (gI σ v5 3 4).bind fun v10 =>
        (tgO σ x0 6).bind fun _ =>
        (D_X6_bind x0 v7 v8 v9 v10 σ).bind fun r11 =>
        D_X6_bindAll_218 (D_X6_bindAll_56 f) x0 x1 r11
      else
      if v6 = 1 then
        (gI σ v5 3 1).bind fun v12 =>
        (gI σ v5 3 2).bind fun v13 =>
        (tgO σ x0 6).bind fun _ =>
        (D_X6_bind x0 v12 v13 0 0 σ).bind fun r14 =>
        D_X6_bindAll_218 (D_X6_bindAll_56 f) x0 x1 r14
      else
      if v6 = 2 then
        D_X6_bindAll_218 (D_X6_bindAll_56 f) x0 x1 σ
      else
      if v6 = 3 then
        D_X6_bindAll_218 (D_X6_bindAll_56 f) x0 x1 σ
      else
      if v6 = 4 then
        (gR σ x0 6 4).bind fun v15 =>
        (gR σ v15 5 9).bind fun v16 =>
        (gI σ v5 3 1).bind fun v17 =>
        (lR σ v16 v17).bind fun v18 =>
        (gR σ x0 6 4).bind fun v19 =>
        (gR σ v19 5 9).bind fun v20 =>
        (gI σ v5 3 2).bind fun v21 =>
        (lR σ v20 v21).bind fun v22 =>
        (gI σ v5 3 3).bind fun v23 =>
        (tgO σ x0 6).bind fun _ =>
        (D_X6_bindInOrder x0 v18 v22 v23 σ).bind fun r24 =>
        D_X6_bindAll_218 (D_X6_bindAll_56 f) x0 x1 r24
      else
      if v6 = 5 then
        (gR σ x0 6 4).bind fun v25 =>
        (gR σ v25 5 9).bind fun v26 =>
        (gI σ v5 3 1).bind fun v27 =>
        (lR σ v26 v27).bind fun v28 =>
        (gI σ v5 3 3).bind fun v29 =>
        (tgO σ x0 6).bind fun _ =>
        (D_X6_bindTogether x0 v28 v29 σ).bind fun r30 =>
        D_X6_bindAll_218 (D_X6_bindAll_56 f) x0 x1 r30
      else
        D_X6_bindAll_218 (D_X6_bindAll_56 f) x0 x1 σ
set_option maxRecDepth 100000 in
set_option maxHeartbeats 4000000 in
theorem lk_X6_bindAll_56 {G : mG} (f : Nat) : ∀ {x0 : Nat} {x1 : Int} {σ : mS} {R : mS}, D_X6_bindAll_56 f x0 x1 σ = some R → ∀ {r : mX} {τ : mS}, Ev G M_X6_bindAll 224 [] [] R r τ → Ev G M_X6_bindAll 56 [(0, vr x0), (1, vi x1)] [] σ r τ := by
  induction f with
  | zero =>
    intros
    rename_i hD _ _ _
    cases hD
  | succ f ih =>
    intro x0 x1 σ R hD r τ hk
    have hrec := @ih
    rw [D_X6_bindAll_56] at hD
    refine ev_iload_n dX6_bindAll_56 1 rfl rfl ?_
    refine ev_aload_n dX6_bindAll_57 0 rfl rfl ?_
    obtain ⟨v1, g, hD⟩ := bd hD
    refine ew_getR 6 4 dX6_bindAll_58 rfl (Nat.le_of_ble_eq_true rfl) w_460 in_X6 rfl g ?_
    obtain ⟨v2, g, hD⟩ := bd hD
    refine ew_getI 5 5 dX6_bindAll_61 rfl (Nat.le_of_ble_eq_true rfl) w_284 in_X5 rfl g ?_
    by_cases c : v2 ≤ x1
    · rw [if_pos c] at hD
      refine ev_icmp_ge_t (tgt := 224) dX6_bindAll_64 (by decide) c ?_
      cases hD
      refine Ev.pick [] rfl ?_
      exact hk
    · rw [if_neg c] at hD
      refine ev_icmp_ge_f 224 dX6_bindAll_64 (by decide) c ?_
      refine ev_aload_n dX6_bindAll_67 0 rfl rfl ?_
      obtain ⟨v3, g, hD⟩ := bd hD
      refine ew_getR 6 4 dX6_bindAll_68 rfl (Nat.le_of_ble_eq_true rfl) w_460 in_X6 rfl g ?_
      obtain ⟨v4, g, hD⟩ := bd hD
      refine ew_getR 5 10 dX6_bindAll_71 rfl (Nat.le_of_ble_eq_true rfl) w_304 in_X5 rfl g ?_
      refine ev_iload_n dX6_bindAll_74 1 rfl rfl ?_
      obtain ⟨v5, g, hD⟩ := bd hD
      refine ew_aald dX6_bindAll_75 g ?_
      refine ev_astore_n dX6_bindAll_76 rfl (Nat.le_of_ble_eq_true rfl) rfl ?_
      refine ev_aload_n dX6_bindAll_77 0 rfl rfl ?_
      obtain ⟨v6, g, hD⟩ := bd hD
      refine ew_getI 3 0 dX6_bindAll_78 rfl (Nat.le_of_ble_eq_true rfl) w_231 in_X3 rfl g ?_
      by_cases c0 : v6 = 0
      · rw [if_pos c0] at hD
        refine ev_tableIn (off := 39) (tgt := 120) dX6_bindAll_81 (by omega) (by omega) (by rw [c0]; rfl) (by decide) ?_
        refine ev_aload_n dX6_bindAll_120 1 rfl rfl ?_
        refine ev_aload_n dX6_bindAll_121 0 rfl rfl ?_
        obtain ⟨v7, g, hD⟩ := bd hD
        refine ew_getI 3 1 dX6_bindAll_122 rfl (Nat.le_of_ble_eq_true rfl) w_236 in_X3 rfl g ?_
        refine ev_aload_n dX6_bindAll_125 0 rfl rfl ?_
        obtain ⟨v8, g, hD⟩ := bd hD
        refine ew_getI 3 2 dX6_bindAll_126 rfl (Nat.le_of_ble_eq_true rfl) w_241 in_X3 rfl g ?_
        refine ev_aload_n dX6_bindAll_129 0 rfl rfl ?_
        obtain ⟨v9, g, hD⟩ := bd hD
        refine ew_getI 3 3 dX6_bindAll_130 rfl (Nat.le_of_ble_eq_true rfl) w_246 in_X3 rfl g ?_
        refine ev_aload_n dX6_bindAll_133 0 rfl rfl ?_
        obtain ⟨v10, g, hD⟩ := bd hD
        refine ew_getI 3 4 dX6_bindAll_134 rfl (Nat.le_of_ble_eq_true rfl) w_251 in_X3 rfl g ?_
        obtain ⟨_, g0, hD⟩ := bd hD
        obtain ⟨r11, g, hD⟩ := bd hD
        refine ew_callV0 (as := [vi v7, vi v8, vi v9, vi v10]) (a := x0) (rest := []) dX6_bindAll_137 v_X6_bind w_1226 rfl (Nat.le_of_ble_eq_true rfl) rfl rfl g0 (Nat.le_of_ble_eq_true rfl) (Nat.le_of_ble_eq_true rfl) (ct_X6_bind g) ?_
        refine ev_goto (tgt := 218) dX6_bindAll_140 (by decide) ?_
        refine Ev.pick [1, 2] rfl ?_
        exact lk_X6_bindAll_218 hD hrec hk
      rw [if_neg c0] at hD
      by_cases c1 : v6 = 1
      · rw [if_pos c1] at hD
        refine ev_tableIn (off := 62) (tgt := 143) dX6_bindAll_81 (by omega) (by omega) (by rw [c1]; rfl) (by decide) ?_
        refine ev_aload_n dX6_bindAll_143 1 rfl rfl ?_
        refine ev_aload_n dX6_bindAll_144 0 rfl rfl ?_
        obtain ⟨v12, g, hD⟩ := bd hD
        refine ew_getI 3 1 dX6_bindAll_145 rfl (Nat.le_of_ble_eq_true rfl) w_236 in_X3 rfl g ?_
        refine ev_aload_n dX6_bindAll_148 0 rfl rfl ?_
        obtain ⟨v13, g, hD⟩ := bd hD
        refine ew_getI 3 2 dX6_bindAll_149 rfl (Nat.le_of_ble_eq_true rfl) w_241 in_X3 rfl g ?_
        refine ev_iconst dX6_bindAll_152 (mi_c rfl) ?_
        refine ev_iconst dX6_bindAll_153 (mi_c rfl) ?_
        obtain ⟨_, g0, hD⟩ := bd hD
        obtain ⟨r14, g, hD⟩ := bd hD
        refine ew_callV0 (as := [vi v12, vi v13, vi 0, vi 0]) (a := x0) (rest := []) dX6_bindAll_154 v_X6_bind w_1226 rfl (Nat.le_of_ble_eq_true rfl) rfl rfl g0 (Nat.le_of_ble_eq_true rfl) (Nat.le_of_ble_eq_true rfl) (ct_X6_bind g) ?_
        refine ev_goto (tgt := 218) dX6_bindAll_157 (by decide) ?_
        refine Ev.pick [1, 2] rfl ?_
        exact lk_X6_bindAll_218 hD hrec hk
      rw [if_neg c1] at hD
      by_cases c2 : v6 = 2
      · rw [if_pos c2] at hD
        refine ev_tableIn (off := 137) (tgt := 218) dX6_bindAll_81 (by omega) (by omega) (by rw [c2]; rfl) (by decide) ?_
        refine Ev.pick [1, 2] rfl ?_
        exact lk_X6_bindAll_218 hD hrec hk
      rw [if_neg c2] at hD
      by_cases c3 : v6 = 3
      · rw [if_pos c3] at hD
        refine ev_tableIn (off := 137) (tgt := 218) dX6_bindAll_81 (by omega) (by omega) (by rw [c3]; rfl) (by decide) ?_
        refine Ev.pick [1, 2] rfl ?_
        exact lk_X6_bindAll_218 hD hrec hk
      rw [if_neg c3] at hD
      by_cases c4 : v6 = 4
      · rw [if_pos c4] at hD
        refine ev_tableIn (off := 79) (tgt := 160) dX6_bindAll_81 (by omega) (by omega) (by rw [c4]; rfl) (by decide) ?_
        refine ev_aload_n dX6_bindAll_160 1 rfl rfl ?_
        refine ev_aload_n dX6_bindAll_161 1 rfl rfl ?_
        obtain ⟨v15, g, hD⟩ := bd hD
        refine ew_getR 6 4 dX6_bindAll_162 rfl (Nat.le_of_ble_eq_true rfl) w_460 in_X6 rfl g ?_
        obtain ⟨v16, g, hD⟩ := bd hD
        refine ew_getR 5 9 dX6_bindAll_165 rfl (Nat.le_of_ble_eq_true rfl) w_299 in_X5 rfl g ?_
        refine ev_aload_n dX6_bindAll_168 0 rfl rfl ?_
        obtain ⟨v17, g, hD⟩ := bd hD
        refine ew_getI 3 1 dX6_bindAll_169 rfl (Nat.le_of_ble_eq_true rfl) w_236 in_X3 rfl g ?_
        obtain ⟨v18, g, hD⟩ := bd hD
        refine ew_aald dX6_bindAll_172 g ?_
        refine ev_aload_n dX6_bindAll_173 1 rfl rfl ?_
        obtain ⟨v19, g, hD⟩ := bd hD
        refine ew_getR 6 4 dX6_bindAll_174 rfl (Nat.le_of_ble_eq_true rfl) w_460 in_X6 rfl g ?_
        obtain ⟨v20, g, hD⟩ := bd hD
        refine ew_getR 5 9 dX6_bindAll_177 rfl (Nat.le_of_ble_eq_true rfl) w_299 in_X5 rfl g ?_
        refine ev_aload_n dX6_bindAll_180 0 rfl rfl ?_
        obtain ⟨v21, g, hD⟩ := bd hD
        refine ew_getI 3 2 dX6_bindAll_181 rfl (Nat.le_of_ble_eq_true rfl) w_241 in_X3 rfl g ?_
        obtain ⟨v22, g, hD⟩ := bd hD
        refine ew_aald dX6_bindAll_184 g ?_
        refine ev_aload_n dX6_bindAll_185 0 rfl rfl ?_
        obtain ⟨v23, g, hD⟩ := bd hD
        refine ew_getI 3 3 dX6_bindAll_186 rfl (Nat.le_of_ble_eq_true rfl) w_246 in_X3 rfl g ?_
        obtain ⟨_, g0, hD⟩ := bd hD
        obtain ⟨r24, g, hD⟩ := bd hD
        refine ew_callV0 (as := [vr v18, vr v22, vi v23]) (a := x0) (rest := []) dX6_bindAll_189 v_X6_bindInOrder w_1232 rfl (Nat.le_of_ble_eq_true rfl) rfl rfl g0 (Nat.le_of_ble_eq_true rfl) (Nat.le_of_ble_eq_true rfl) (ct_X6_bindInOrder g) ?_
        refine ev_goto (tgt := 218) dX6_bindAll_192 (by decide) ?_
        refine Ev.pick [1, 2] rfl ?_
        exact lk_X6_bindAll_218 hD hrec hk
      rw [if_neg c4] at hD
      by_cases c5 : v6 = 5
      · rw [if_pos c5] at hD
        refine ev_tableIn (off := 114) (tgt := 195) dX6_bindAll_81 (by omega) (by omega) (by rw [c5]; rfl) (by decide) ?_
        refine ev_aload_n dX6_bindAll_195 1 rfl rfl ?_
        refine ev_aload_n dX6_bindAll_196 1 rfl rfl ?_
        obtain ⟨v25, g, hD⟩ := bd hD
        refine ew_getR 6 4 dX6_bindAll_197 rfl (Nat.le_of_ble_eq_true rfl) w_460 in_X6 rfl g ?_
        obtain ⟨v26, g, hD⟩ := bd hD
        refine ew_getR 5 9 dX6_bindAll_200 rfl (Nat.le_of_ble_eq_true rfl) w_299 in_X5 rfl g ?_
        refine ev_aload_n dX6_bindAll_203 0 rfl rfl ?_
        obtain ⟨v27, g, hD⟩ := bd hD
        refine ew_getI 3 1 dX6_bindAll_204 rfl (Nat.le_of_ble_eq_true rfl) w_236 in_X3 rfl g ?_
        obtain ⟨v28, g, hD⟩ := bd hD
        refine ew_aald dX6_bindAll_207 g ?_
        refine ev_aload_n dX6_bindAll_208 0 rfl rfl ?_
        obtain ⟨v29, g, hD⟩ := bd hD
        refine ew_getI 3 3 dX6_bindAll_209 rfl (Nat.le_of_ble_eq_true rfl) w_246 in_X3 rfl g ?_
        obtain ⟨_, g0, hD⟩ := bd hD
        obtain ⟨r30, g, hD⟩ := bd hD
        refine ew_callV0 (as := [vr v28, vi v29]) (a := x0) (rest := []) dX6_bindAll_212 v_X6_bindTogether w_1236 rfl (Nat.le_of_ble_eq_true rfl) rfl rfl g0 (Nat.le_of_ble_eq_true rfl) (Nat.le_of_ble_eq_true rfl) (ct_X6_bindTogether g) ?_
        refine ev_goto (tgt := 218) dX6_bindAll_215 (by decide) ?_
        refine Ev.pick [1, 2] rfl ?_
        exact lk_X6_bindAll_218 hD hrec hk
      rw [if_neg c5] at hD
      refine ev_tableOut (tgt := 218) dX6_bindAll_81 (by omega) (by decide) ?_
      refine Ev.pick [1, 2] rfl ?_
      exact lk_X6_bindAll_218 hD hrec hk
def D_X6_bindAll (x0 : Nat) (σ : mS) : Option mS :=
  (D_X6_bindAll_2 mFU x0 0 σ).bind fun r1 =>
  (D_X6_bindAll_56 mFU x0 0 r1).bind fun r2 =>
  some r2
set_option maxRecDepth 100000 in
set_option maxHeartbeats 4000000 in
theorem lk_X6_bindAll {G : mG} {x0 : Nat} {σ : mS} {R : mS} (hD : D_X6_bindAll x0 σ = some R) : Ev G M_X6_bindAll 0 [(0, vr x0)] [] σ (.inl none) R := by
  unfold D_X6_bindAll at hD
  refine ev_iconst dX6_bindAll_0 (mi_c rfl) ?_
  refine ev_istore_n dX6_bindAll_1 rfl (Nat.le_of_ble_eq_true rfl) rfl ?_
  obtain ⟨r1, g, hD⟩ := bd hD
  refine Ev.pick [1, 0] rfl ?_
  refine lk_X6_bindAll_2 mFU g ?_
  refine ev_iconst dX6_bindAll_54 (mi_c rfl) ?_
  refine ev_istore_n dX6_bindAll_55 rfl (Nat.le_of_ble_eq_true rfl) rfl ?_
  obtain ⟨r2, g, hD⟩ := bd hD
  refine Ev.pick [1, 0] rfl ?_
  refine lk_X6_bindAll_56 mFU g ?_
  cases hD
  exact ev_ret none dX6_bindAll_224 True.intro
theorem ct_X6_bindAll {G : mG} {x0 : Nat} {σ : mS} {R : mS} (hD : D_X6_bindAll x0 σ = some R) : Ct G M_X6_bindAll [vr x0] σ (.inl none) R := ct_of rfl (by decide +kernel) rfl (Nat.le_of_ble_eq_true rfl) rfl (lk_X6_bindAll hD)
def D_X6_fitsThoseAhead_45 (rec : Nat → Int → Int → mS → Option (Unit ⊕ Int)) (σ : mS) : Option (Unit ⊕ Int) :=
  (bO 0).bind fun v1 =>
  some (Sum.inr v1)
set_option maxRecDepth 100000 in
set_option maxHeartbeats 4000000 in
theorem lk_X6_fitsThoseAhead_45 {G : mG} {rec : Nat → Int → Int → mS → Option (Unit ⊕ Int)} {σ : mS} {R : (Unit ⊕ Int)} {r : mX} {τ : mS} (hD : D_X6_fitsThoseAhead_45 rec  σ = some R) (hrec : ∀ {x0 : Nat} {x1 : Int} {x2 : Int} {σ : mS} {R : (Unit ⊕ Int)}, rec x0 x1 x2 σ = some R → ∀ {r : mX} {τ : mS}, (∀ z, R = (Sum.inl z) → Ev G M_X6_fitsThoseAhead 53 [] [] σ r τ) ∧ (∀ z, R = (Sum.inr z) → r = .inl (some (vi z)) ∧ τ = σ) → Ev G M_X6_fitsThoseAhead 2 [(0, vr x0), (1, vi x1), (2, vi x2)] [] σ r τ) (hk : (∀ z, R = (Sum.inl z) → Ev G M_X6_fitsThoseAhead 53 [] [] σ r τ) ∧ (∀ z, R = (Sum.inr z) → r = .inl (some (vi z)) ∧ τ = σ)) : Ev G M_X6_fitsThoseAhead 45 [] [] σ r τ := by
  unfold D_X6_fitsThoseAhead_45 at hD
  refine ev_iconst dX6_fitsThoseAhead_45 (mi_c rfl) ?_
  obtain ⟨v1, gb, hD⟩ := bd hD
  cases hD
  obtain ⟨rfl, rfl⟩ := hk.2 _ rfl
  exact ew_retb dX6_fitsThoseAhead_46 rfl gb
def D_X6_fitsThoseAhead_2 : Nat → Nat → Int → Int → mS → Option (Unit ⊕ Int)
  | 0, _, _, _, _ => none
  | f + 1, x0, x1, x2, σ =>
    if x1 ≤ x2 then
      some (Sum.inl ())
    else
      (gR σ x0 6 0).bind fun v1 =>
      (lI σ v1 x1).bind fun v2 =>
      (gR σ x0 6 0).bind fun v3 =>
      (lI σ v3 x2).bind fun v4 =>
      (gR σ x0 6 6).bind fun v5 =>
      (lR σ v5 x1).bind fun v6 =>
      (lI σ v6 x2).bind fun v7 =>
      if (mw (v2 - v4)) < v7 then
        D_X6_fitsThoseAhead_45 (D_X6_fitsThoseAhead_2 f)  σ
      else
        (gR σ x0 6 7).bind fun v8 =>
        (lR σ v8 x1).bind fun v9 =>
        (lI σ v9 x2).bind fun v10 =>
        if (mw (v2 - v4)) ≤ v10 then
          (D_X6_fitsThoseAhead_2 f) x0 x1 (mw (x2 + 1)) σ
        else
          D_X6_fitsThoseAhead_45 (D_X6_fitsThoseAhead_2 f)  σ
set_option maxRecDepth 100000 in
set_option maxHeartbeats 4000000 in
theorem lk_X6_fitsThoseAhead_2 {G : mG} (f : Nat) : ∀ {x0 : Nat} {x1 : Int} {x2 : Int} {σ : mS} {R : (Unit ⊕ Int)}, D_X6_fitsThoseAhead_2 f x0 x1 x2 σ = some R → ∀ {r : mX} {τ : mS}, (∀ z, R = (Sum.inl z) → Ev G M_X6_fitsThoseAhead 53 [] [] σ r τ) ∧ (∀ z, R = (Sum.inr z) → r = .inl (some (vi z)) ∧ τ = σ) → Ev G M_X6_fitsThoseAhead 2 [(0, vr x0), (1, vi x1), (2, vi x2)] [] σ r τ := by
  induction f with
  | zero =>
    intros
    rename_i hD _ _ _
    cases hD
  | succ f ih =>
    intro x0 x1 x2 σ R hD r τ hk
    have hrec := @ih
    rw [D_X6_fitsThoseAhead_2] at hD
    refine ev_iload_n dX6_fitsThoseAhead_2 2 rfl rfl ?_
    refine ev_iload_n dX6_fitsThoseAhead_3 1 rfl rfl ?_
    by_cases c : x1 ≤ x2
    · rw [if_pos c] at hD
      refine ev_icmp_ge_t (tgt := 53) dX6_fitsThoseAhead_4 (by decide) c ?_
      cases hD
      refine Ev.pick [] rfl ?_
      exact hk.1 _ rfl
    · rw [if_neg c] at hD
      refine ev_icmp_ge_f 53 dX6_fitsThoseAhead_4 (by decide) c ?_
      refine ev_aload_n dX6_fitsThoseAhead_7 0 rfl rfl ?_
      obtain ⟨v1, g, hD⟩ := bd hD
      refine ew_getR 6 0 dX6_fitsThoseAhead_8 rfl (Nat.le_of_ble_eq_true rfl) w_452 in_X6 rfl g ?_
      refine ev_iload_n dX6_fitsThoseAhead_11 1 rfl rfl ?_
      obtain ⟨v2, g, hD⟩ := bd hD
      refine ew_iald dX6_fitsThoseAhead_12 g ?_
      refine ev_aload_n dX6_fitsThoseAhead_13 0 rfl rfl ?_
      obtain ⟨v3, g, hD⟩ := bd hD
      refine ew_getR 6 0 dX6_fitsThoseAhead_14 rfl (Nat.le_of_ble_eq_true rfl) w_452 in_X6 rfl g ?_
      refine ev_iload_n dX6_fitsThoseAhead_17 2 rfl rfl ?_
      obtain ⟨v4, g, hD⟩ := bd hD
      refine ew_iald dX6_fitsThoseAhead_18 g ?_
      refine ev_isub dX6_fitsThoseAhead_19 ?_
      refine ev_istore_n dX6_fitsThoseAhead_20 rfl (Nat.le_of_ble_eq_true rfl) rfl ?_
      refine ev_iload_n dX6_fitsThoseAhead_21 0 rfl rfl ?_
      refine ev_aload_n dX6_fitsThoseAhead_22 1 rfl rfl ?_
      obtain ⟨v5, g, hD⟩ := bd hD
      refine ew_getR 6 6 dX6_fitsThoseAhead_23 rfl (Nat.le_of_ble_eq_true rfl) w_462 in_X6 rfl g ?_
      refine ev_iload_n dX6_fitsThoseAhead_26 2 rfl rfl ?_
      obtain ⟨v6, g, hD⟩ := bd hD
      refine ew_aald dX6_fitsThoseAhead_27 g ?_
      refine ev_iload_n dX6_fitsThoseAhead_28 3 rfl rfl ?_
      obtain ⟨v7, g, hD⟩ := bd hD
      refine ew_iald dX6_fitsThoseAhead_29 g ?_
      by_cases c : (mw (v2 - v4)) < v7
      · rw [if_pos c] at hD
        refine ev_icmp_lt_t (tgt := 45) dX6_fitsThoseAhead_30 (by decide) c ?_
        refine Ev.pick [] rfl ?_
        exact lk_X6_fitsThoseAhead_45 hD hrec hk
      · rw [if_neg c] at hD
        refine ev_icmp_lt_f 45 dX6_fitsThoseAhead_30 (by decide) c ?_
        refine ev_iload_n dX6_fitsThoseAhead_33 0 rfl rfl ?_
        refine ev_aload_n dX6_fitsThoseAhead_34 1 rfl rfl ?_
        obtain ⟨v8, g, hD⟩ := bd hD
        refine ew_getR 6 7 dX6_fitsThoseAhead_35 rfl (Nat.le_of_ble_eq_true rfl) w_463 in_X6 rfl g ?_
        refine ev_iload_n dX6_fitsThoseAhead_38 2 rfl rfl ?_
        obtain ⟨v9, g, hD⟩ := bd hD
        refine ew_aald dX6_fitsThoseAhead_39 g ?_
        refine ev_iload_n dX6_fitsThoseAhead_40 3 rfl rfl ?_
        obtain ⟨v10, g, hD⟩ := bd hD
        refine ew_iald dX6_fitsThoseAhead_41 g ?_
        by_cases c : (mw (v2 - v4)) ≤ v10
        · rw [if_pos c] at hD
          refine ev_icmp_le_t (tgt := 47) dX6_fitsThoseAhead_42 (by decide) c ?_
          refine ev_iinc dX6_fitsThoseAhead_47 3 rfl (Nat.le_of_ble_eq_true rfl) rfl ?_
          refine ev_goto (tgt := 2) dX6_fitsThoseAhead_50 (by decide) ?_
          refine Ev.pick [2, 3, 0] rfl ?_
          exact hrec hD hk
        · rw [if_neg c] at hD
          refine ev_icmp_le_f 47 dX6_fitsThoseAhead_42 (by decide) c ?_
          refine Ev.pick [] rfl ?_
          exact lk_X6_fitsThoseAhead_45 hD hrec hk
def D_X6_fitsThoseAhead (x0 : Nat) (x1 : Int) (σ : mS) : Option Int :=
  (D_X6_fitsThoseAhead_2 mFU x0 x1 0 σ).bind fun r1 =>
  match r1 with
  | (Sum.inl z2) =>
    (bO 1).bind fun v3 =>
    some v3
  | (Sum.inr z4) =>
    some z4
set_option maxRecDepth 100000 in
set_option maxHeartbeats 4000000 in
theorem lk_X6_fitsThoseAhead {G : mG} {x0 : Nat} {x1 : Int} {σ : mS} {R : Int} (hD : D_X6_fitsThoseAhead x0 x1 σ = some R) : Ev G M_X6_fitsThoseAhead 0 [(0, vr x0), (1, vi x1)] [] σ (.inl (some (vi R))) σ := by
  unfold D_X6_fitsThoseAhead at hD
  refine ev_iconst dX6_fitsThoseAhead_0 (mi_c rfl) ?_
  refine ev_istore_n dX6_fitsThoseAhead_1 rfl (Nat.le_of_ble_eq_true rfl) rfl ?_
  obtain ⟨r1, g, hD⟩ := bd hD
  refine Ev.pick [1, 2, 0] rfl ?_
  rcases r1 with z2 | z4
  · refine lk_X6_fitsThoseAhead_2 mFU g ⟨(fun _ hz => ?_), (fun _ hz => nomatch hz)⟩
    cases hz
    refine ev_iconst dX6_fitsThoseAhead_53 (mi_c rfl) ?_
    obtain ⟨v3, gb, hD⟩ := bd hD
    cases hD
    exact ew_retb dX6_fitsThoseAhead_54 rfl gb
  · refine lk_X6_fitsThoseAhead_2 mFU g ⟨(fun _ hz => nomatch hz), (fun _ hz => ?_)⟩
    cases hz
    cases hD
    exact ⟨rfl, rfl⟩
theorem ct_X6_fitsThoseAhead {G : mG} {x0 : Nat} {x1 : Int} {σ : mS} {R : Int} (hD : D_X6_fitsThoseAhead x0 x1 σ = some R) : Ct G M_X6_fitsThoseAhead [vr x0, vi x1] σ (.inl (some (vi R))) σ := ct_of rfl (by decide +kernel) rfl (Nat.le_of_ble_eq_true rfl) rfl (lk_X6_fitsThoseAhead hD)
def D_X6_seek_151 (rec : Nat → Int → Int → mS → Option ((Int × mS) ⊕ mS)) (x0 : Nat) (x1 : Int) (x2 : Int) (σ : mS) : Option ((Int × mS) ⊕ mS) :=
  rec x0 x1 (mw (x2 + 1)) σ
set_option maxRecDepth 100000 in
set_option maxHeartbeats 4000000 in
theorem lk_X6_seek_151 {G : mG} {rec : Nat → Int → Int → mS → Option ((Int × mS) ⊕ mS)} {x0 : Nat} {x1 : Int} {x2 : Int} {σ : mS} {R : ((Int × mS) ⊕ mS)} {r : mX} {τ : mS} (hD : D_X6_seek_151 rec x0 x1 x2 σ = some R) (hrec : ∀ {x0 : Nat} {x1 : Int} {x2 : Int} {σ : mS} {R : ((Int × mS) ⊕ mS)}, rec x0 x1 x2 σ = some R → ∀ {r : mX} {τ : mS}, (∀ z, R = (Sum.inl z) → Ev G M_X6_seek 157 [(0, vr x0), (1, vi (z.1))] [] z.2 r τ) ∧ (∀ z, R = (Sum.inr z) → r = .inl none ∧ τ = z) → Ev G M_X6_seek 39 [(0, vr x0), (1, vi x1), (2, vi x2)] [] σ r τ) (hk : (∀ z, R = (Sum.inl z) → Ev G M_X6_seek 157 [(0, vr x0), (1, vi (z.1))] [] z.2 r τ) ∧ (∀ z, R = (Sum.inr z) → r = .inl none ∧ τ = z)) : Ev G M_X6_seek 151 [(0, vr x0), (1, vi x1), (2, vi x2)] [] σ r τ := by
  unfold D_X6_seek_151 at hD
  refine ev_iinc dX6_seek_151 2 rfl (Nat.le_of_ble_eq_true rfl) rfl ?_
  refine ev_goto (tgt := 39) dX6_seek_154 (by decide) ?_
  refine Ev.pick [1, 2, 0] rfl ?_
  exact hrec hD hk
def D_X6_seek_39 : Nat → Nat → Int → Int → mS → Option ((Int × mS) ⊕ mS)
  | 0, _, _, _, _ => none
  | f + 1, x0, x1, x2, σ =>
    if 60000 ≤ x2 then
      some (Sum.inl (x1, σ))
    else
      if x1 < 0 then
        some (Sum.inl (x1, σ))
      else
        (gR σ x0 6 4).bind fun v1 =>
        (gI σ v1 5 3).bind fun v2 =>
        if v2 ≤ x1 then
          some (Sum.inl (x1, σ))
        else
          (gR σ x0 6 5).bind fun v3 =>
          (gR σ v3 0 3).bind fun v4 =>
          (lR σ v4 x1).bind fun v5 =>
          (gR σ x0 6 0).bind fun v6 =>
          (lI σ v6 x1).bind fun v7 =>
          (D_X7_nextIn v5 (mw (v7 + 1)) σ).bind fun r8 =>
          if r8 < 1000 then
            (gI σ x0 6 3).bind fun v9 =>
            if v9 ≠ 20000 then
              (gI σ x0 6 3).bind fun v10 =>
              (pI σ x0 6 3 (mw (v10 + 1))).bind fun s11 =>
              (gR s11 x0 6 0).bind fun v12 =>
              (sI s11 v12 x1 r8).bind fun s13 =>
              (tgO s13 x0 6).bind fun _ =>
              (D_X6_fitsThoseAhead x0 x1 s13).bind fun r14 =>
              if r14 = 0 then
                D_X6_seek_151 (D_X6_seek_39 f) x0 x1 x2 s13
              else
                (gR s13 x0 6 4).bind fun v15 =>
                (gI s13 v15 5 3).bind fun v16 =>
                if v16 ≤ (mw (x1 + 1)) then
                  D_X6_seek_151 (D_X6_seek_39 f) x0 (mw (x1 + 1)) x2 s13
                else
                  (gR s13 x0 6 0).bind fun v17 =>
                  (sI s13 v17 (mw (x1 + 1)) ((-1))).bind fun s18 =>
                  D_X6_seek_151 (D_X6_seek_39 f) x0 (mw (x1 + 1)) x2 s18
            else
              some (Sum.inr σ)
          else
            D_X6_seek_151 (D_X6_seek_39 f) x0 (mw (x1 + (-1))) x2 σ
set_option maxRecDepth 100000 in
set_option maxHeartbeats 4000000 in
theorem lk_X6_seek_39 {G : mG} (f : Nat) : ∀ {x0 : Nat} {x1 : Int} {x2 : Int} {σ : mS} {R : ((Int × mS) ⊕ mS)}, D_X6_seek_39 f x0 x1 x2 σ = some R → ∀ {r : mX} {τ : mS}, (∀ z, R = (Sum.inl z) → Ev G M_X6_seek 157 [(0, vr x0), (1, vi (z.1))] [] z.2 r τ) ∧ (∀ z, R = (Sum.inr z) → r = .inl none ∧ τ = z) → Ev G M_X6_seek 39 [(0, vr x0), (1, vi x1), (2, vi x2)] [] σ r τ := by
  induction f with
  | zero =>
    intros
    rename_i hD _ _ _
    cases hD
  | succ f ih =>
    intro x0 x1 x2 σ R hD r τ hk
    have hrec := @ih
    rw [D_X6_seek_39] at hD
    refine ev_iload_n dX6_seek_39 2 rfl rfl ?_
    refine ev_ldc dX6_seek_40 w_1240 (mi_c rfl) ?_
    by_cases c : 60000 ≤ x2
    · rw [if_pos c] at hD
      refine ev_icmp_ge_t (tgt := 157) dX6_seek_42 (by decide) c ?_
      cases hD
      refine Ev.pick [0, 1] rfl ?_
      exact hk.1 _ rfl
    · rw [if_neg c] at hD
      refine ev_icmp_ge_f 157 dX6_seek_42 (by decide) c ?_
      refine ev_iload_n dX6_seek_45 1 rfl rfl ?_
      by_cases c : x1 < 0
      · rw [if_pos c] at hD
        refine ev_if_lt_t (tgt := 157) dX6_seek_46 (by decide) c ?_
        cases hD
        refine Ev.pick [0, 1] rfl ?_
        exact hk.1 _ rfl
      · rw [if_neg c] at hD
        refine ev_if_lt_f 157 dX6_seek_46 (by decide) c ?_
        refine ev_iload_n dX6_seek_49 1 rfl rfl ?_
        refine ev_aload_n dX6_seek_50 0 rfl rfl ?_
        obtain ⟨v1, g, hD⟩ := bd hD
        refine ew_getR 6 4 dX6_seek_51 rfl (Nat.le_of_ble_eq_true rfl) w_460 in_X6 rfl g ?_
        obtain ⟨v2, g, hD⟩ := bd hD
        refine ew_getI 5 3 dX6_seek_54 rfl (Nat.le_of_ble_eq_true rfl) w_276 in_X5 rfl g ?_
        by_cases c : v2 ≤ x1
        · rw [if_pos c] at hD
          refine ev_icmp_ge_t (tgt := 157) dX6_seek_57 (by decide) c ?_
          cases hD
          refine Ev.pick [0, 1] rfl ?_
          exact hk.1 _ rfl
        · rw [if_neg c] at hD
          refine ev_icmp_ge_f 157 dX6_seek_57 (by decide) c ?_
          refine ev_aload_n dX6_seek_60 0 rfl rfl ?_
          obtain ⟨v3, g, hD⟩ := bd hD
          refine ew_getR 6 5 dX6_seek_61 rfl (Nat.le_of_ble_eq_true rfl) w_461 in_X6 rfl g ?_
          obtain ⟨v4, g, hD⟩ := bd hD
          refine ew_getR 0 3 dX6_seek_64 rfl (Nat.le_of_ble_eq_true rfl) w_392 in_X0 rfl g ?_
          refine ev_iload_n dX6_seek_67 1 rfl rfl ?_
          obtain ⟨v5, g, hD⟩ := bd hD
          refine ew_aald dX6_seek_68 g ?_
          refine ev_aload_n dX6_seek_69 0 rfl rfl ?_
          obtain ⟨v6, g, hD⟩ := bd hD
          refine ew_getR 6 0 dX6_seek_70 rfl (Nat.le_of_ble_eq_true rfl) w_452 in_X6 rfl g ?_
          refine ev_iload_n dX6_seek_73 1 rfl rfl ?_
          obtain ⟨v7, g, hD⟩ := bd hD
          refine ew_iald dX6_seek_74 g ?_
          refine ev_iconst dX6_seek_75 (mi_c rfl) ?_
          refine ev_iadd dX6_seek_76 ?_
          obtain ⟨r8, g, hD⟩ := bd hD
          refine ew_callSv (as := [vr v5, vi (mw (v7 + 1))]) (rest := []) dX6_seek_77 v_X7_nextIn w_1241 rfl (Nat.le_of_ble_eq_true rfl) (Nat.le_of_ble_eq_true rfl) (Nat.le_of_ble_eq_true rfl) (ct_X7_nextIn g) ?_
          refine ev_istore_n dX6_seek_80 rfl (Nat.le_of_ble_eq_true rfl) rfl ?_
          refine ev_iload_n dX6_seek_81 0 rfl rfl ?_
          refine ev_sp dX6_seek_82 rfl ?_
          by_cases c : r8 < 1000
          · rw [if_pos c] at hD
            refine ev_icmp_lt_t (tgt := 94) dX6_seek_85 (by decide) c ?_
            refine ev_aload_n dX6_seek_94 1 rfl rfl ?_
            obtain ⟨v9, g, hD⟩ := bd hD
            refine ew_getI 6 3 dX6_seek_95 rfl (Nat.le_of_ble_eq_true rfl) w_458 in_X6 rfl g ?_
            refine ev_sp dX6_seek_98 rfl ?_
            by_cases c : v9 ≠ 20000
            · rw [if_pos c] at hD
              refine ev_icmp_ne_t (tgt := 105) dX6_seek_101 (by decide) c ?_
              refine ev_aload_n dX6_seek_105 1 rfl rfl ?_
              refine ev_dup dX6_seek_106 rfl ?_
              obtain ⟨v10, g, hD⟩ := bd hD
              refine ew_getI 6 3 dX6_seek_107 rfl (Nat.le_of_ble_eq_true rfl) w_458 in_X6 rfl g ?_
              refine ev_iconst dX6_seek_110 (mi_c rfl) ?_
              refine ev_iadd dX6_seek_111 ?_
              obtain ⟨s11, g, hD⟩ := bd hD
              refine ew_putI 6 3 dX6_seek_112 rfl (Nat.le_of_ble_eq_true rfl) w_458 in_X6 tyX6_ok nmX6 (Or.inl rfl) rfl g ?_
              refine ev_aload_n dX6_seek_115 1 rfl rfl ?_
              obtain ⟨v12, g, hD⟩ := bd hD
              refine ew_getR 6 0 dX6_seek_116 rfl (Nat.le_of_ble_eq_true rfl) w_452 in_X6 rfl g ?_
              refine ev_iload_n dX6_seek_119 2 rfl rfl ?_
              refine ev_iload_n dX6_seek_120 0 rfl rfl ?_
              obtain ⟨s13, g, hD⟩ := bd hD
              refine ew_iast dX6_seek_121 g ?_
              refine ev_aload_n dX6_seek_122 1 rfl rfl ?_
              refine ev_iload_n dX6_seek_123 2 rfl rfl ?_
              obtain ⟨_, g0, hD⟩ := bd hD
              obtain ⟨r14, g, hD⟩ := bd hD
              refine ew_callVv (as := [vi x1]) (a := x0) (rest := []) dX6_seek_124 v_X6_fitsThoseAhead w_1242 rfl (Nat.le_of_ble_eq_true rfl) rfl rfl g0 (Nat.le_of_ble_eq_true rfl) (Nat.le_of_ble_eq_true rfl) (ct_X6_fitsThoseAhead g) ?_
              by_cases c : r14 = 0
              · rw [if_pos c] at hD
                refine ev_if_eq_t (tgt := 151) dX6_seek_127 (by decide) c ?_
                refine Ev.pick [1, 2, 3] rfl ?_
                exact lk_X6_seek_151 hD hrec hk
              · rw [if_neg c] at hD
                refine ev_if_eq_f 151 dX6_seek_127 (by decide) c ?_
                refine ev_iinc dX6_seek_130 2 rfl (Nat.le_of_ble_eq_true rfl) rfl ?_
                refine ev_iload_n dX6_seek_133 0 rfl rfl ?_
                refine ev_aload_n dX6_seek_134 2 rfl rfl ?_
                obtain ⟨v15, g, hD⟩ := bd hD
                refine ew_getR 6 4 dX6_seek_135 rfl (Nat.le_of_ble_eq_true rfl) w_460 in_X6 rfl g ?_
                obtain ⟨v16, g, hD⟩ := bd hD
                refine ew_getI 5 3 dX6_seek_138 rfl (Nat.le_of_ble_eq_true rfl) w_276 in_X5 rfl g ?_
                by_cases c : v16 ≤ (mw (x1 + 1))
                · rw [if_pos c] at hD
                  refine ev_icmp_ge_t (tgt := 151) dX6_seek_141 (by decide) c ?_
                  refine Ev.pick [2, 0, 3] rfl ?_
                  exact lk_X6_seek_151 hD hrec hk
                · rw [if_neg c] at hD
                  refine ev_icmp_ge_f 151 dX6_seek_141 (by decide) c ?_
                  refine ev_aload_n dX6_seek_144 2 rfl rfl ?_
                  obtain ⟨v17, g, hD⟩ := bd hD
                  refine ew_getR 6 0 dX6_seek_145 rfl (Nat.le_of_ble_eq_true rfl) w_452 in_X6 rfl g ?_
                  refine ev_iload_n dX6_seek_148 0 rfl rfl ?_
                  refine ev_iconst dX6_seek_149 (mi_c rfl) ?_
                  obtain ⟨s18, g, hD⟩ := bd hD
                  refine ew_iast dX6_seek_150 g ?_
                  refine Ev.pick [2, 0, 3] rfl ?_
                  exact lk_X6_seek_151 hD hrec hk
            · rw [if_neg c] at hD
              refine ev_icmp_ne_f 105 dX6_seek_101 (by decide) c ?_
              cases hD
              obtain ⟨rfl, rfl⟩ := hk.2 _ rfl
              exact ev_ret none dX6_seek_104 True.intro
          · rw [if_neg c] at hD
            refine ev_icmp_lt_f 94 dX6_seek_85 (by decide) c ?_
            refine ev_iinc dX6_seek_88 2 rfl (Nat.le_of_ble_eq_true rfl) rfl ?_
            refine ev_goto (tgt := 151) dX6_seek_91 (by decide) ?_
            refine Ev.pick [2, 0, 3] rfl ?_
            exact lk_X6_seek_151 hD hrec hk
def D_X6_seek_167 (y0 : Int) (y1 : Nat) (σ : mS) : Option mS :=
  (pI σ y1 6 2 y0).bind fun s1 =>
  some s1
set_option maxRecDepth 100000 in
set_option maxHeartbeats 4000000 in
theorem lk_X6_seek_167 {G : mG} {y0 : Int} {y1 : Nat} {σ : mS} {R : mS} (hD : D_X6_seek_167 y0 y1 σ = some R) : Ev G M_X6_seek 167 [] [vi y0, vr y1] σ (.inl none) R := by
  unfold D_X6_seek_167 at hD
  obtain ⟨s1, g, hD⟩ := bd hD
  refine ew_putI 6 2 dX6_seek_167 rfl (Nat.le_of_ble_eq_true rfl) w_456 in_X6 tyX6_ok nmX6 (Or.inl rfl) rfl g ?_
  cases hD
  exact ev_ret none dX6_seek_170 True.intro
def D_X6_seek_157 (x0 : Nat) (x1 : Int) (σ : mS) : Option mS :=
  if 0 ≤ x1 then
    D_X6_seek_167 1 x0 σ
  else
    D_X6_seek_167 0 x0 σ
set_option maxRecDepth 100000 in
set_option maxHeartbeats 4000000 in
theorem lk_X6_seek_157 {G : mG} {x0 : Nat} {x1 : Int} {σ : mS} {R : mS} (hD : D_X6_seek_157 x0 x1 σ = some R) : Ev G M_X6_seek 157 [(0, vr x0), (1, vi x1)] [] σ (.inl none) R := by
  unfold D_X6_seek_157 at hD
  refine ev_aload_n dX6_seek_157 0 rfl rfl ?_
  refine ev_iload_n dX6_seek_158 1 rfl rfl ?_
  by_cases c : 0 ≤ x1
  · rw [if_pos c] at hD
    refine ev_if_ge_t (tgt := 166) dX6_seek_159 (by decide) c ?_
    refine ev_iconst dX6_seek_166 (mi_c rfl) ?_
    refine Ev.pick [] rfl ?_
    exact lk_X6_seek_167 hD
  · rw [if_neg c] at hD
    refine ev_if_ge_f 166 dX6_seek_159 (by decide) c ?_
    refine ev_iconst dX6_seek_162 (mi_c rfl) ?_
    refine ev_goto (tgt := 167) dX6_seek_163 (by decide) ?_
    refine Ev.pick [] rfl ?_
    exact lk_X6_seek_167 hD
def D_X6_seek (x0 : Nat) (σ : mS) : Option mS :=
  (gI σ x0 6 1).bind fun v1 =>
  if v1 = 0 then
    (pB σ x0 6 1 1).bind fun s2 =>
    (tgO s2 x0 6).bind fun _ =>
    (D_X6_bindAll x0 s2).bind fun r3 =>
    (pI r3 x0 6 3 0).bind fun s4 =>
    (pI s4 x0 6 2 (-2)).bind fun s5 =>
    (gR s5 x0 6 0).bind fun v6 =>
    (sI s5 v6 0 ((-1))).bind fun s7 =>
    (D_X6_seek_39 mFU x0 0 0 s7).bind fun r8 =>
    match r8 with
    | (Sum.inl z9) =>
      D_X6_seek_157 x0 z9.1 z9.2
    | (Sum.inr z10) =>
      some z10
  else
    some σ
set_option maxRecDepth 100000 in
set_option maxHeartbeats 4000000 in
theorem lk_X6_seek {G : mG} {x0 : Nat} {σ : mS} {R : mS} (hD : D_X6_seek x0 σ = some R) : Ev G M_X6_seek 0 [(0, vr x0)] [] σ (.inl none) R := by
  unfold D_X6_seek at hD
  refine ev_aload_n dX6_seek_0 0 rfl rfl ?_
  obtain ⟨v1, g, hD⟩ := bd hD
  refine ew_getI 6 1 dX6_seek_1 rfl (Nat.le_of_ble_eq_true rfl) w_454 in_X6 rfl g ?_
  by_cases c : v1 = 0
  · rw [if_pos c] at hD
    refine ev_if_eq_t (tgt := 8) dX6_seek_4 (by decide) c ?_
    refine ev_aload_n dX6_seek_8 0 rfl rfl ?_
    refine ev_iconst dX6_seek_9 (mi_c rfl) ?_
    obtain ⟨s2, g, hD⟩ := bd hD
    refine ew_putB 6 1 dX6_seek_10 rfl (Nat.le_of_ble_eq_true rfl) w_454 in_X6 tyX6_ok nmX6 (Or.inl rfl) rfl g ?_
    refine ev_aload_n dX6_seek_13 0 rfl rfl ?_
    obtain ⟨_, g0, hD⟩ := bd hD
    obtain ⟨r3, g, hD⟩ := bd hD
    refine ew_callV0 (as := []) (a := x0) (rest := []) dX6_seek_14 v_X6_bindAll w_1222 rfl (Nat.le_of_ble_eq_true rfl) rfl rfl g0 (Nat.le_of_ble_eq_true rfl) (Nat.le_of_ble_eq_true rfl) (ct_X6_bindAll g) ?_
    refine ev_aload_n dX6_seek_17 0 rfl rfl ?_
    refine ev_iconst dX6_seek_18 (mi_c rfl) ?_
    obtain ⟨s4, g, hD⟩ := bd hD
    refine ew_putI 6 3 dX6_seek_19 rfl (Nat.le_of_ble_eq_true rfl) w_458 in_X6 tyX6_ok nmX6 (Or.inl rfl) rfl g ?_
    refine ev_aload_n dX6_seek_22 0 rfl rfl ?_
    refine ev_bp dX6_seek_23 rfl ?_
    obtain ⟨s5, g, hD⟩ := bd hD
    refine ew_putI 6 2 dX6_seek_25 rfl (Nat.le_of_ble_eq_true rfl) w_456 in_X6 tyX6_ok nmX6 (Or.inl rfl) rfl g ?_
    refine ev_aload_n dX6_seek_28 0 rfl rfl ?_
    obtain ⟨v6, g, hD⟩ := bd hD
    refine ew_getR 6 0 dX6_seek_29 rfl (Nat.le_of_ble_eq_true rfl) w_452 in_X6 rfl g ?_
    refine ev_iconst dX6_seek_32 (mi_c rfl) ?_
    refine ev_iconst dX6_seek_33 (mi_c rfl) ?_
    obtain ⟨s7, g, hD⟩ := bd hD
    refine ew_iast dX6_seek_34 g ?_
    refine ev_iconst dX6_seek_35 (mi_c rfl) ?_
    refine ev_istore_n dX6_seek_36 rfl (Nat.le_of_ble_eq_true rfl) rfl ?_
    refine ev_iconst dX6_seek_37 (mi_c rfl) ?_
    refine ev_istore_n dX6_seek_38 rfl (Nat.le_of_ble_eq_true rfl) rfl ?_
    obtain ⟨r8, g, hD⟩ := bd hD
    refine Ev.pick [2, 1, 0] rfl ?_
    rcases r8 with z9 | z10
    · refine lk_X6_seek_39 mFU g ⟨(fun _ hz => ?_), (fun _ hz => nomatch hz)⟩
      cases hz
      exact lk_X6_seek_157 hD
    · refine lk_X6_seek_39 mFU g ⟨(fun _ hz => nomatch hz), (fun _ hz => ?_)⟩
      cases hz
      cases hD
      exact ⟨rfl, rfl⟩
  · rw [if_neg c] at hD
    refine ev_if_eq_f 8 dX6_seek_4 (by decide) c ?_
    cases hD
    exact ev_ret none dX6_seek_7 True.intro
theorem ct_X6_seek {G : mG} {x0 : Nat} {σ : mS} {R : mS} (hD : D_X6_seek x0 σ = some R) : Ct G M_X6_seek [vr x0] σ (.inl none) R := ct_of rfl (by decide +kernel) rfl (Nat.le_of_ble_eq_true rfl) rfl (lk_X6_seek hD)
