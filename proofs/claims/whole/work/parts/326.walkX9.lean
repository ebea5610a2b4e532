def D_X9_thrown (x0 : Nat) (σ : mS) : Option Int :=
  (gI σ x0 8 0).bind fun v1 =>
  some v1
set_option maxRecDepth 100000 in
set_option maxHeartbeats 4000000 in
theorem lk_X9_thrown {G : mG} {x0 : Nat} {σ : mS} {R : Int} (hD : D_X9_thrown x0 σ = some R) : Ev G M_X9_thrown 0 [(0, vr x0)] [] σ (.inl (some (vi R))) σ := by
  unfold D_X9_thrown at hD
  refine ev_aload_n dX9_thrown_0 0 rfl rfl ?_
  obtain ⟨v1, g, hD⟩ := bd hD
  refine ew_getI 8 0 dX9_thrown_1 rfl (Nat.le_of_ble_eq_true rfl) w_1265 in_X9 rfl g ?_
  cases hD
  exact ev_ret (some (vi _)) dX9_thrown_4 True.intro
theorem ct_X9_thrown {G : mG} {x0 : Nat} {σ : mS} {R : Int} (hD : D_X9_thrown x0 σ = some R) : Ct G M_X9_thrown [vr x0] σ (.inl (some (vi R))) σ := ct_of rfl (by decide +kernel) rfl (Nat.le_of_ble_eq_true rfl) rfl (lk_X9_thrown hD)
def D_X9_isFine_38 (y0 : Int) (σ : mS) : Option (Int × mS) :=
  (bO y0).bind fun v1 =>
  some (v1, σ)
set_option maxRecDepth 100000 in
set_option maxHeartbeats 4000000 in
theorem lk_X9_isFine_38 {G : mG} {y0 : Int} {σ : mS} {R : (Int × mS)} (hD : D_X9_isFine_38 y0 σ = some R) : Ev G M_X9_isFine 38 [] [vi y0] σ (.inl (some (vi R.1))) R.2 := by
  unfold D_X9_isFine_38 at hD
  obtain ⟨v1, gb, hD⟩ := bd hD
  cases hD
  exact ew_retb dX9_isFine_38 rfl gb
def D_X9_isFine_26 (x0 : Nat) (σ : mS) : Option (Int × mS) :=
  (gI σ x0 8 0).bind fun v1 =>
  if v1 ≠ 0 then
    D_X9_isFine_38 0 σ
  else
    D_X9_isFine_38 1 σ
set_option maxRecDepth 100000 in
set_option maxHeartbeats 4000000 in
theorem lk_X9_isFine_26 {G : mG} {x0 : Nat} {σ : mS} {R : (Int × mS)} (hD : D_X9_isFine_26 x0 σ = some R) : Ev G M_X9_isFine 26 [(0, vr x0)] [] σ (.inl (some (vi R.1))) R.2 := by
  unfold D_X9_isFine_26 at hD
  refine ev_aload_n dX9_isFine_26 0 rfl rfl ?_
  obtain ⟨v1, g, hD⟩ := bd hD
  refine ew_getI 8 0 dX9_isFine_27 rfl (Nat.le_of_ble_eq_true rfl) w_1265 in_X9 rfl g ?_
  by_cases c : v1 ≠ 0
  · rw [if_pos c] at hD
    refine ev_if_ne_t (tgt := 37) dX9_isFine_30 (by decide) c ?_
    refine ev_iconst dX9_isFine_37 (mi_c rfl) ?_
    refine Ev.pick [] rfl ?_
    exact lk_X9_isFine_38 hD
  · rw [if_neg c] at hD
    refine ev_if_ne_f 37 dX9_isFine_30 (by decide) c ?_
    refine ev_iconst dX9_isFine_33 (mi_c rfl) ?_
    refine ev_goto (tgt := 38) dX9_isFine_34 (by decide) ?_
    refine Ev.pick [] rfl ?_
    exact lk_X9_isFine_38 hD
def D_X9_isFine (x0 : Nat) (x1 : Int) (x2 : Int) (x3 : Int) (σ : mS) : Option (Int × mS) :=
  if x1 ≠ 0 then
    D_X9_isFine_26 x0 σ
  else
    (gI σ x0 8 0).bind fun v1 =>
    if v1 ≠ 0 then
      D_X9_isFine_26 x0 σ
    else
      (pI σ x0 8 0 x2).bind fun s2 =>
      (gR s2 x0 8 1).bind fun v3 =>
      (lI s2 v3 x3).bind fun v4 =>
      (sI s2 v3 x3 (mw (v4 + 1))).bind fun s5 =>
      D_X9_isFine_26 x0 s5
set_option maxRecDepth 100000 in
set_option maxHeartbeats 4000000 in
theorem lk_X9_isFine {G : mG} {x0 : Nat} {x1 : Int} {x2 : Int} {x3 : Int} {σ : mS} {R : (Int × mS)} (hD : D_X9_isFine x0 x1 x2 x3 σ = some R) : Ev G M_X9_isFine 0 [(0, vr x0), (1, vi x1), (2, vi x2), (3, vi x3)] [] σ (.inl (some (vi R.1))) R.2 := by
  unfold D_X9_isFine at hD
  refine ev_iload_n dX9_isFine_0 1 rfl rfl ?_
  by_cases c : x1 ≠ 0
  · rw [if_pos c] at hD
    refine ev_if_ne_t (tgt := 26) dX9_isFine_1 (by decide) c ?_
    refine Ev.pick [0] rfl ?_
    exact lk_X9_isFine_26 hD
  · rw [if_neg c] at hD
    refine ev_if_ne_f 26 dX9_isFine_1 (by decide) c ?_
    refine ev_aload_n dX9_isFine_4 0 rfl rfl ?_
    obtain ⟨v1, g, hD⟩ := bd hD
    refine ew_getI 8 0 dX9_isFine_5 rfl (Nat.le_of_ble_eq_true rfl) w_1265 in_X9 rfl g ?_
    by_cases c : v1 ≠ 0
    · rw [if_pos c] at hD
      refine ev_if_ne_t (tgt := 26) dX9_isFine_8 (by decide) c ?_
      refine Ev.pick [0] rfl ?_
      exact lk_X9_isFine_26 hD
    · rw [if_neg c] at hD
      refine ev_if_ne_f 26 dX9_isFine_8 (by decide) c ?_
      refine ev_aload_n dX9_isFine_11 0 rfl rfl ?_
      refine ev_iload_n dX9_isFine_12 2 rfl rfl ?_
      obtain ⟨s2, g, hD⟩ := bd hD
      refine ew_putI 8 0 dX9_isFine_13 rfl (Nat.le_of_ble_eq_true rfl) w_1265 in_X9 tyX9_ok nmX9 (Or.inl rfl) rfl g ?_
      refine ev_aload_n dX9_isFine_16 0 rfl rfl ?_
      obtain ⟨v3, g, hD⟩ := bd hD
      refine ew_getR 8 1 dX9_isFine_17 rfl (Nat.le_of_ble_eq_true rfl) w_1266 in_X9 rfl g ?_
      refine ev_iload_n dX9_isFine_20 3 rfl rfl ?_
      refine ev_dup2 dX9_isFine_21 rfl rfl ?_
      obtain ⟨v4, g, hD⟩ := bd hD
      refine ew_iald dX9_isFine_22 g ?_
      refine ev_iconst dX9_isFine_23 (mi_c rfl) ?_
      refine ev_iadd dX9_isFine_24 ?_
      obtain ⟨s5, g, hD⟩ := bd hD
      refine ew_iast dX9_isFine_25 g ?_
      refine Ev.pick [0] rfl ?_
      exact lk_X9_isFine_26 hD
theorem ct_X9_isFine {G : mG} {x0 : Nat} {x1 : Int} {x2 : Int} {x3 : Int} {σ : mS} {R : (Int × mS)} (hD : D_X9_isFine x0 x1 x2 x3 σ = some R) : Ct G M_X9_isFine [vr x0, vi x1, vi x2, vi x3] σ (.inl (some (vi R.1))) R.2 := ct_of rfl (by decide +kernel) rfl (Nat.le_of_ble_eq_true rfl) rfl (lk_X9_isFine hD)
def D_X9_within_15 (y0 : Int) (σ : mS) : Option Int :=
  (bO y0).bind fun v1 =>
  some v1
set_option maxRecDepth 100000 in
set_option maxHeartbeats 4000000 in
theorem lk_X9_within_15 {G : mG} {y0 : Int} {σ : mS} {R : Int} (hD : D_X9_within_15 y0 σ = some R) : Ev G M_X9_within 15 [] [vi y0] σ (.inl (some (vi R))) σ := by
  unfold D_X9_within_15 at hD
  obtain ⟨v1, gb, hD⟩ := bd hD
  cases hD
  exact ew_retb dX9_within_15 rfl gb
def D_X9_within_14 (σ : mS) : Option Int :=
  D_X9_within_15 0 σ
set_option maxRecDepth 100000 in
set_option maxHeartbeats 4000000 in
theorem lk_X9_within_14 {G : mG} {σ : mS} {R : Int} (hD : D_X9_within_14  σ = some R) : Ev G M_X9_within 14 [] [] σ (.inl (some (vi R))) σ := by
  unfold D_X9_within_14 at hD
  refine ev_iconst dX9_within_14 (mi_c rfl) ?_
  exact lk_X9_within_15 hD
def D_X9_within (x0 : Int) (x1 : Int) (x2 : Int) (σ : mS) : Option Int :=
  if x0 < x1 then
    D_X9_within_14  σ
  else
    if x2 < x0 then
      D_X9_within_14  σ
    else
      D_X9_within_15 1 σ
set_option maxRecDepth 100000 in
set_option maxHeartbeats 4000000 in
theorem lk_X9_within {G : mG} {x0 : Int} {x1 : Int} {x2 : Int} {σ : mS} {R : Int} (hD : D_X9_within x0 x1 x2 σ = some R) : Ev G M_X9_within 0 [(0, vi x0), (1, vi x1), (2, vi x2)] [] σ (.inl (some (vi R))) σ := by
  unfold D_X9_within at hD
  refine ev_iload_n dX9_within_0 0 rfl rfl ?_
  refine ev_iload_n dX9_within_1 1 rfl rfl ?_
  by_cases c : x0 < x1
  · rw [if_pos c] at hD
    refine ev_icmp_lt_t (tgt := 14) dX9_within_2 (by decide) c ?_
    refine Ev.pick [] rfl ?_
    exact lk_X9_within_14 hD
  · rw [if_neg c] at hD
    refine ev_icmp_lt_f 14 dX9_within_2 (by decide) c ?_
    refine ev_iload_n dX9_within_5 0 rfl rfl ?_
    refine ev_iload_n dX9_within_6 2 rfl rfl ?_
    by_cases c : x2 < x0
    · rw [if_pos c] at hD
      refine ev_icmp_gt_t (tgt := 14) dX9_within_7 (by decide) c ?_
      refine Ev.pick [] rfl ?_
      exact lk_X9_within_14 hD
    · rw [if_neg c] at hD
      refine ev_icmp_gt_f 14 dX9_within_7 (by decide) c ?_
      refine ev_iconst dX9_within_10 (mi_c rfl) ?_
      refine ev_goto (tgt := 15) dX9_within_11 (by decide) ?_
      refine Ev.pick [] rfl ?_
      exact lk_X9_within_15 hD
theorem ct_X9_within {G : mG} {x0 : Int} {x1 : Int} {x2 : Int} {σ : mS} {R : Int} (hD : D_X9_within x0 x1 x2 σ = some R) : Ct G M_X9_within [vi x0, vi x1, vi x2] σ (.inl (some (vi R))) σ := ct_of rfl (by decide +kernel) rfl (Nat.le_of_ble_eq_true rfl) rfl (lk_X9_within hD)
def D_X9_init (x0 : Nat) (σ : mS) : Option mS :=
  (tgN x0).bind fun _ =>
  (nwA σ 0 3).bind fun s1 =>
  (pR s1 x0 8 1 (32 + mN σ)).bind fun s2 =>
  (nwA s2 0 303).bind fun s3 =>
  (pR s3 x0 8 2 (32 + mN s2)).bind fun s4 =>
  (nwA s4 0 303).bind fun s5 =>
  (pR s5 x0 8 3 (32 + mN s4)).bind fun s6 =>
  (nwA s6 0 3636).bind fun s7 =>
  (pR s7 x0 8 4 (32 + mN s6)).bind fun s8 =>
  (nwA s8 0 16).bind fun s9 =>
  (pR s9 x0 8 9 (32 + mN s8)).bind fun s10 =>
  (nwA s10 0 16).bind fun s11 =>
  (pR s11 x0 8 10 (32 + mN s10)).bind fun s12 =>
  (nwA s12 0 4).bind fun s13 =>
  (pR s13 x0 8 11 (32 + mN s12)).bind fun s14 =>
  (nwA s14 0 24).bind fun s15 =>
  (pR s15 x0 8 12 (32 + mN s14)).bind fun s16 =>
  (nwM s16 10 2 12 1000).bind fun s17 =>
  (pR s17 x0 8 13 (32 + mN s16)).bind fun s18 =>
  (nwM s18 10 2 12 1000).bind fun s19 =>
  (pR s19 x0 8 14 (32 + mN s18)).bind fun s20 =>
  (nwM s20 10 2 12 1000).bind fun s21 =>
  (pR s21 x0 8 15 (32 + mN s20)).bind fun s22 =>
  (pI s22 x0 8 17 ((-1))).bind fun s23 =>
  (pI s23 x0 8 19 ((-1))).bind fun s24 =>
  (nwA s24 0 24).bind fun s25 =>
  (pR s25 x0 8 25 (32 + mN s24)).bind fun s26 =>
  (nwA s26 0 1001).bind fun s27 =>
  (pR s27 x0 8 26 (32 + mN s26)).bind fun s28 =>
  (nwA s28 2 1000).bind fun s29 =>
  (pR s29 x0 8 27 (32 + mN s28)).bind fun s30 =>
  (nwA s30 3 500).bind fun s31 =>
  (pR s31 x0 8 29 (32 + mN s30)).bind fun s32 =>
  (nwA s32 3 500).bind fun s33 =>
  (pR s33 x0 8 30 (32 + mN s32)).bind fun s34 =>
  (nwA s34 3 112).bind fun s35 =>
  (pR s35 x0 8 31 (32 + mN s34)).bind fun s36 =>
  (nwA s36 0 16).bind fun s37 =>
  (pR s37 x0 8 32 (32 + mN s36)).bind fun s38 =>
  (nwA s38 0 16).bind fun s39 =>
  (pR s39 x0 8 33 (32 + mN s38)).bind fun s40 =>
  (nwA s40 0 4).bind fun s41 =>
  (pR s41 x0 8 34 (32 + mN s40)).bind fun s42 =>
  (nwA s42 0 24).bind fun s43 =>
  (pR s43 x0 8 35 (32 + mN s42)).bind fun s44 =>
  (nwA s44 0 8).bind fun s45 =>
  (pR s45 x0 8 36 (32 + mN s44)).bind fun s46 =>
  (pI s46 x0 8 44 ((-1))).bind fun s47 =>
  (nwM s47 10 2 12 1000).bind fun s48 =>
  (pR s48 x0 8 50 (32 + mN s47)).bind fun s49 =>
  (nwA s49 0 12).bind fun s50 =>
  (pR s50 x0 8 51 (32 + mN s49)).bind fun s51 =>
  (pI s51 x0 8 8 2).bind fun s52 =>
  (gR s52 x0 8 10).bind fun v53 =>
  (sI s52 v53 0 1000).bind fun s54 =>
  (gR s54 x0 8 9).bind fun v55 =>
  (sI s54 v55 1 999).bind fun s56 =>
  (gR s56 x0 8 10).bind fun v57 =>
  (sI s56 v57 1 1).bind fun s58 =>
  (gR s58 x0 8 2).bind fun v59 =>
  (sI s58 v59 0 1).bind fun s60 =>
  some s60
set_option maxRecDepth 100000 in
set_option maxHeartbeats 4000000 in
theorem lk_X9_init {G : mG} {x0 : Nat} {σ : mS} {R : mS} (hD : D_X9_init x0 σ = some R) : Ev G M_X9_init 0 [(0, vr x0)] [] σ (.inl none) R := by
  unfold D_X9_init at hD
  refine ev_aload_n dX9_init_0 0 rfl rfl ?_
  obtain ⟨_, g, hD⟩ := bd hD
  refine ew_objInit dX9_init_1 w_1262 w_objI w_objC (Nat.le_of_ble_eq_true rfl) (Nat.le_of_ble_eq_true rfl) (Nat.le_of_ble_eq_true rfl) g ?_
  refine ev_aload_n dX9_init_4 0 rfl rfl ?_
  refine ev_iconst dX9_init_5 (mi_c rfl) ?_
  obtain ⟨s1, g, hD⟩ := bd hD
  refine ew_newa 0 dX9_init_6 rfl rfl (by decide +kernel) (by decide +kernel) w_203 g ?_
  obtain ⟨s2, g, hD⟩ := bd hD
  refine ew_putR 8 1 dX9_init_8 rfl (Nat.le_of_ble_eq_true rfl) w_1266 in_X9 tyX9_ok nmX9 (Or.inr ⟨rfl, rfl⟩) rfl g ?_
  refine ev_aload_n dX9_init_11 0 rfl rfl ?_
  refine ev_sp dX9_init_12 rfl ?_
  obtain ⟨s3, g, hD⟩ := bd hD
  refine ew_newa 0 dX9_init_15 rfl rfl (by decide +kernel) (by decide +kernel) w_203 g ?_
  obtain ⟨s4, g, hD⟩ := bd hD
  refine ew_putR 8 2 dX9_init_17 rfl (Nat.le_of_ble_eq_true rfl) w_1267 in_X9 tyX9_ok nmX9 (Or.inr ⟨rfl, rfl⟩) rfl g ?_
  refine ev_aload_n dX9_init_20 0 rfl rfl ?_
  refine ev_sp dX9_init_21 rfl ?_
  obtain ⟨s5, g, hD⟩ := bd hD
  refine ew_newa 0 dX9_init_24 rfl rfl (by decide +kernel) (by decide +kernel) w_203 g ?_
  obtain ⟨s6, g, hD⟩ := bd hD
  refine ew_putR 8 3 dX9_init_26 rfl (Nat.le_of_ble_eq_true rfl) w_1268 in_X9 tyX9_ok nmX9 (Or.inr ⟨rfl, rfl⟩) rfl g ?_
  refine ev_aload_n dX9_init_29 0 rfl rfl ?_
  refine ev_sp dX9_init_30 rfl ?_
  obtain ⟨s7, g, hD⟩ := bd hD
  refine ew_newa 0 dX9_init_33 rfl rfl (by decide +kernel) (by decide +kernel) w_203 g ?_
  obtain ⟨s8, g, hD⟩ := bd hD
  refine ew_putR 8 4 dX9_init_35 rfl (Nat.le_of_ble_eq_true rfl) w_1269 in_X9 tyX9_ok nmX9 (Or.inr ⟨rfl, rfl⟩) rfl g ?_
  refine ev_aload_n dX9_init_38 0 rfl rfl ?_
  refine ev_bp dX9_init_39 rfl ?_
  obtain ⟨s9, g, hD⟩ := bd hD
  refine ew_newa 0 dX9_init_41 rfl rfl (by decide +kernel) (by decide +kernel) w_203 g ?_
  obtain ⟨s10, g, hD⟩ := bd hD
  refine ew_putR 8 9 dX9_init_43 rfl (Nat.le_of_ble_eq_true rfl) w_1274 in_X9 tyX9_ok nmX9 (Or.inr ⟨rfl, rfl⟩) rfl g ?_
  refine ev_aload_n dX9_init_46 0 rfl rfl ?_
  refine ev_bp dX9_init_47 rfl ?_
  obtain ⟨s11, g, hD⟩ := bd hD
  refine ew_newa 0 dX9_init_49 rfl rfl (by decide +kernel) (by decide +kernel) w_203 g ?_
  obtain ⟨s12, g, hD⟩ := bd hD
  refine ew_putR 8 10 dX9_init_51 rfl (Nat.le_of_ble_eq_true rfl) w_1275 in_X9 tyX9_ok nmX9 (Or.inr ⟨rfl, rfl⟩) rfl g ?_
  refine ev_aload_n dX9_init_54 0 rfl rfl ?_
  refine ev_iconst dX9_init_55 (mi_c rfl) ?_
  obtain ⟨s13, g, hD⟩ := bd hD
  refine ew_newa 0 dX9_init_56 rfl rfl (by decide +kernel) (by decide +kernel) w_203 g ?_
  obtain ⟨s14, g, hD⟩ := bd hD
  refine ew_putR 8 11 dX9_init_58 rfl (Nat.le_of_ble_eq_true rfl) w_1276 in_X9 tyX9_ok nmX9 (Or.inr ⟨rfl, rfl⟩) rfl g ?_
  refine ev_aload_n dX9_init_61 0 rfl rfl ?_
  refine ev_bp dX9_init_62 rfl ?_
  obtain ⟨s15, g, hD⟩ := bd hD
  refine ew_newa 0 dX9_init_64 rfl rfl (by decide +kernel) (by decide +kernel) w_203 g ?_
  obtain ⟨s16, g, hD⟩ := bd hD
  refine ew_putR 8 12 dX9_init_66 rfl (Nat.le_of_ble_eq_true rfl) w_1277 in_X9 tyX9_ok nmX9 (Or.inr ⟨rfl, rfl⟩) rfl g ?_
  refine ev_aload_n dX9_init_69 0 rfl rfl ?_
  refine ev_bp dX9_init_70 rfl ?_
  refine ev_sp dX9_init_72 rfl ?_
  obtain ⟨s17, g, hD⟩ := bd hD
  refine ew_mnew 10 2 dX9_init_75 rfl rfl w_1263 w_t1264 w_1425 g ?_
  obtain ⟨s18, g, hD⟩ := bd hD
  refine ew_putR 8 13 dX9_init_79 rfl (Nat.le_of_ble_eq_true rfl) w_1278 in_X9 tyX9_ok nmX9 (Or.inr ⟨rfl, rfl⟩) rfl g ?_
  refine ev_aload_n dX9_init_82 0 rfl rfl ?_
  refine ev_bp dX9_init_83 rfl ?_
  refine ev_sp dX9_init_85 rfl ?_
  obtain ⟨s19, g, hD⟩ := bd hD
  refine ew_mnew 10 2 dX9_init_88 rfl rfl w_1263 w_t1264 w_1425 g ?_
  obtain ⟨s20, g, hD⟩ := bd hD
  refine ew_putR 8 14 dX9_init_92 rfl (Nat.le_of_ble_eq_true rfl) w_1279 in_X9 tyX9_ok nmX9 (Or.inr ⟨rfl, rfl⟩) rfl g ?_
  refine ev_aload_n dX9_init_95 0 rfl rfl ?_
  refine ev_bp dX9_init_96 rfl ?_
  refine ev_sp dX9_init_98 rfl ?_
  obtain ⟨s21, g, hD⟩ := bd hD
  refine ew_mnew 10 2 dX9_init_101 rfl rfl w_1263 w_t1264 w_1425 g ?_
  obtain ⟨s22, g, hD⟩ := bd hD
  refine ew_putR 8 15 dX9_init_105 rfl (Nat.le_of_ble_eq_true rfl) w_1280 in_X9 tyX9_ok nmX9 (Or.inr ⟨rfl, rfl⟩) rfl g ?_
  refine ev_aload_n dX9_init_108 0 rfl rfl ?_
  refine ev_iconst dX9_init_109 (mi_c rfl) ?_
  obtain ⟨s23, g, hD⟩ := bd hD
  refine ew_putI 8 17 dX9_init_110 rfl (Nat.le_of_ble_eq_true rfl) w_1282 in_X9 tyX9_ok nmX9 (Or.inl rfl) rfl g ?_
  refine ev_aload_n dX9_init_113 0 rfl rfl ?_
  refine ev_iconst dX9_init_114 (mi_c rfl) ?_
  obtain ⟨s24, g, hD⟩ := bd hD
  refine ew_putI 8 19 dX9_init_115 rfl (Nat.le_of_ble_eq_true rfl) w_1284 in_X9 tyX9_ok nmX9 (Or.inl rfl) rfl g ?_
  refine ev_aload_n dX9_init_118 0 rfl rfl ?_
  refine ev_bp dX9_init_119 rfl ?_
  obtain ⟨s25, g, hD⟩ := bd hD
  refine ew_newa 0 dX9_init_121 rfl rfl (by decide +kernel) (by decide +kernel) w_203 g ?_
  obtain ⟨s26, g, hD⟩ := bd hD
  refine ew_putR 8 25 dX9_init_123 rfl (Nat.le_of_ble_eq_true rfl) w_1290 in_X9 tyX9_ok nmX9 (Or.inr ⟨rfl, rfl⟩) rfl g ?_
  refine ev_aload_n dX9_init_126 0 rfl rfl ?_
  refine ev_sp dX9_init_127 rfl ?_
  obtain ⟨s27, g, hD⟩ := bd hD
  refine ew_newa 0 dX9_init_130 rfl rfl (by decide +kernel) (by decide +kernel) w_203 g ?_
  obtain ⟨s28, g, hD⟩ := bd hD
  refine ew_putR 8 26 dX9_init_132 rfl (Nat.le_of_ble_eq_true rfl) w_1291 in_X9 tyX9_ok nmX9 (Or.inr ⟨rfl, rfl⟩) rfl g ?_
  refine ev_aload_n dX9_init_135 0 rfl rfl ?_
  refine ev_sp dX9_init_136 rfl ?_
  obtain ⟨s29, g, hD⟩ := bd hD
  refine ew_newa 2 dX9_init_139 rfl rfl (by decide +kernel) (by decide +kernel) w_1425 g ?_
  obtain ⟨s30, g, hD⟩ := bd hD
  refine ew_putR 8 27 dX9_init_141 rfl (Nat.le_of_ble_eq_true rfl) w_1292 in_X9 tyX9_ok nmX9 (Or.inr ⟨rfl, rfl⟩) rfl g ?_
  refine ev_aload_n dX9_init_144 0 rfl rfl ?_
  refine ev_sp dX9_init_145 rfl ?_
  obtain ⟨s31, g, hD⟩ := bd hD
  refine ew_newa 3 dX9_init_148 rfl rfl (by decide +kernel) (by decide +kernel) w_948 g ?_
  obtain ⟨s32, g, hD⟩ := bd hD
  refine ew_putR 8 29 dX9_init_150 rfl (Nat.le_of_ble_eq_true rfl) w_1294 in_X9 tyX9_ok nmX9 (Or.inr ⟨rfl, rfl⟩) rfl g ?_
  refine ev_aload_n dX9_init_153 0 rfl rfl ?_
  refine ev_sp dX9_init_154 rfl ?_
  obtain ⟨s33, g, hD⟩ := bd hD
  refine ew_newa 3 dX9_init_157 rfl rfl (by decide +kernel) (by decide +kernel) w_948 g ?_
  obtain ⟨s34, g, hD⟩ := bd hD
  refine ew_putR 8 30 dX9_init_159 rfl (Nat.le_of_ble_eq_true rfl) w_1295 in_X9 tyX9_ok nmX9 (Or.inr ⟨rfl, rfl⟩) rfl g ?_
  refine ev_aload_n dX9_init_162 0 rfl rfl ?_
  refine ev_bp dX9_init_163 rfl ?_
  obtain ⟨s35, g, hD⟩ := bd hD
  refine ew_newa 3 dX9_init_165 rfl rfl (by decide +kernel) (by decide +kernel) w_948 g ?_
  obtain ⟨s36, g, hD⟩ := bd hD
  refine ew_putR 8 31 dX9_init_167 rfl (Nat.le_of_ble_eq_true rfl) w_1296 in_X9 tyX9_ok nmX9 (Or.inr ⟨rfl, rfl⟩) rfl g ?_
  refine ev_aload_n dX9_init_170 0 rfl rfl ?_
  refine ev_bp dX9_init_171 rfl ?_
  obtain ⟨s37, g, hD⟩ := bd hD
  refine ew_newa 0 dX9_init_173 rfl rfl (by decide +kernel) (by decide +kernel) w_203 g ?_
  obtain ⟨s38, g, hD⟩ := bd hD
  refine ew_putR 8 32 dX9_init_175 rfl (Nat.le_of_ble_eq_true rfl) w_1297 in_X9 tyX9_ok nmX9 (Or.inr ⟨rfl, rfl⟩) rfl g ?_
  refine ev_aload_n dX9_init_178 0 rfl rfl ?_
  refine ev_bp dX9_init_179 rfl ?_
  obtain ⟨s39, g, hD⟩ := bd hD
  refine ew_newa 0 dX9_init_181 rfl rfl (by decide +kernel) (by decide +kernel) w_203 g ?_
  obtain ⟨s40, g, hD⟩ := bd hD
  refine ew_putR 8 33 dX9_init_183 rfl (Nat.le_of_ble_eq_true rfl) w_1298 in_X9 tyX9_ok nmX9 (Or.inr ⟨rfl, rfl⟩) rfl g ?_
  refine ev_aload_n dX9_init_186 0 rfl rfl ?_
  refine ev_iconst dX9_init_187 (mi_c rfl) ?_
  obtain ⟨s41, g, hD⟩ := bd hD
  refine ew_newa 0 dX9_init_188 rfl rfl (by decide +kernel) (by decide +kernel) w_203 g ?_
  obtain ⟨s42, g, hD⟩ := bd hD
  refine ew_putR 8 34 dX9_init_190 rfl (Nat.le_of_ble_eq_true rfl) w_1299 in_X9 tyX9_ok nmX9 (Or.inr ⟨rfl, rfl⟩) rfl g ?_
  refine ev_aload_n dX9_init_193 0 rfl rfl ?_
  refine ev_bp dX9_init_194 rfl ?_
  obtain ⟨s43, g, hD⟩ := bd hD
  refine ew_newa 0 dX9_init_196 rfl rfl (by decide +kernel) (by decide +kernel) w_203 g ?_
  obtain ⟨s44, g, hD⟩ := bd hD
  refine ew_putR 8 35 dX9_init_198 rfl (Nat.le_of_ble_eq_true rfl) w_1300 in_X9 tyX9_ok nmX9 (Or.inr ⟨rfl, rfl⟩) rfl g ?_
  refine ev_aload_n dX9_init_201 0 rfl rfl ?_
  refine ev_bp dX9_init_202 rfl ?_
  obtain ⟨s45, g, hD⟩ := bd hD
  refine ew_newa 0 dX9_init_204 rfl rfl (by decide +kernel) (by decide +kernel) w_203 g ?_
  obtain ⟨s46, g, hD⟩ := bd hD
  refine ew_putR 8 36 dX9_init_206 rfl (Nat.le_of_ble_eq_true rfl) w_1301 in_X9 tyX9_ok nmX9 (Or.inr ⟨rfl, rfl⟩) rfl g ?_
  refine ev_aload_n dX9_init_209 0 rfl rfl ?_
  refine ev_iconst dX9_init_210 (mi_c rfl) ?_
  obtain ⟨s47, g, hD⟩ := bd hD
  refine ew_putI 8 44 dX9_init_211 rfl (Nat.le_of_ble_eq_true rfl) w_1309 in_X9 tyX9_ok nmX9 (Or.inl rfl) rfl g ?_
  refine ev_aload_n dX9_init_214 0 rfl rfl ?_
  refine ev_bp dX9_init_215 rfl ?_
  refine ev_sp dX9_init_217 rfl ?_
  obtain ⟨s48, g, hD⟩ := bd hD
  refine ew_mnew 10 2 dX9_init_220 rfl rfl w_1263 w_t1264 w_1425 g ?_
  obtain ⟨s49, g, hD⟩ := bd hD
  refine ew_putR 8 50 dX9_init_224 rfl (Nat.le_of_ble_eq_true rfl) w_1315 in_X9 tyX9_ok nmX9 (Or.inr ⟨rfl, rfl⟩) rfl g ?_
  refine ev_aload_n dX9_init_227 0 rfl rfl ?_
  refine ev_bp dX9_init_228 rfl ?_
  obtain ⟨s50, g, hD⟩ := bd hD
  refine ew_newa 0 dX9_init_230 rfl rfl (by decide +kernel) (by decide +kernel) w_203 g ?_
  obtain ⟨s51, g, hD⟩ := bd hD
  refine ew_putR 8 51 dX9_init_232 rfl (Nat.le_of_ble_eq_true rfl) w_1316 in_X9 tyX9_ok nmX9 (Or.inr ⟨rfl, rfl⟩) rfl g ?_
  refine ev_aload_n dX9_init_235 0 rfl rfl ?_
  refine ev_iconst dX9_init_236 (mi_c rfl) ?_
  obtain ⟨s52, g, hD⟩ := bd hD
  refine ew_putI 8 8 dX9_init_237 rfl (Nat.le_of_ble_eq_true rfl) w_1273 in_X9 tyX9_ok nmX9 (Or.inl rfl) rfl g ?_
  refine ev_aload_n dX9_init_240 0 rfl rfl ?_
  obtain ⟨v53, g, hD⟩ := bd hD
  refine ew_getR 8 10 dX9_init_241 rfl (Nat.le_of_ble_eq_true rfl) w_1275 in_X9 rfl g ?_
  refine ev_iconst dX9_init_244 (mi_c rfl) ?_
  refine ev_sp dX9_init_245 rfl ?_
  obtain ⟨s54, g, hD⟩ := bd hD
  refine ew_iast dX9_init_248 g ?_
  refine ev_aload_n dX9_init_249 0 rfl rfl ?_
  obtain ⟨v55, g, hD⟩ := bd hD
  refine ew_getR 8 9 dX9_init_250 rfl (Nat.le_of_ble_eq_true rfl) w_1274 in_X9 rfl g ?_
  refine ev_iconst dX9_init_253 (mi_c rfl) ?_
  refine ev_sp dX9_init_254 rfl ?_
  obtain ⟨s56, g, hD⟩ := bd hD
  refine ew_iast dX9_init_257 g ?_
  refine ev_aload_n dX9_init_258 0 rfl rfl ?_
  obtain ⟨v57, g, hD⟩ := bd hD
  refine ew_getR 8 10 dX9_init_259 rfl (Nat.le_of_ble_eq_true rfl) w_1275 in_X9 rfl g ?_
  refine ev_iconst dX9_init_262 (mi_c rfl) ?_
  refine ev_iconst dX9_init_263 (mi_c rfl) ?_
  obtain ⟨s58, g, hD⟩ := bd hD
  refine ew_iast dX9_init_264 g ?_
  refine ev_aload_n dX9_init_265 0 rfl rfl ?_
  obtain ⟨v59, g, hD⟩ := bd hD
  refine ew_getR 8 2 dX9_init_266 rfl (Nat.le_of_ble_eq_true rfl) w_1267 in_X9 rfl g ?_
  refine ev_iconst dX9_init_269 (mi_c rfl) ?_
  refine ev_iconst dX9_init_270 (mi_c rfl) ?_
  obtain ⟨s60, g, hD⟩ := bd hD
  refine ew_iast dX9_init_271 g ?_
  cases hD
  exact ev_ret none dX9_init_272 True.intro
theorem ct_X9_init {G : mG} {x0 : Nat} {σ : mS} {R : mS} (hD : D_X9_init x0 σ = some R) : Ct G M_X9_init [vr x0] σ (.inl none) R := ct_of rfl (by decide +kernel) rfl (Nat.le_of_ble_eq_true rfl) rfl (lk_X9_init hD)
def D_X9_ruleAt (x0 : Nat) (x1 : Int) (x2 : Int) (σ : mS) : Option Int :=
  (gR σ x0 8 2).bind fun v1 =>
  (lI σ v1 (mw ((mw (3 + (mw (5 * x1)))) + x2))).bind fun v2 =>
  some v2
set_option maxRecDepth 100000 in
set_option maxHeartbeats 4000000 in
theorem lk_X9_ruleAt {G : mG} {x0 : Nat} {x1 : Int} {x2 : Int} {σ : mS} {R : Int} (hD : D_X9_ruleAt x0 x1 x2 σ = some R) : Ev G M_X9_ruleAt 0 [(0, vr x0), (1, vi x1), (2, vi x2)] [] σ (.inl (some (vi R))) σ := by
  unfold D_X9_ruleAt at hD
  refine ev_aload_n dX9_ruleAt_0 0 rfl rfl ?_
  obtain ⟨v1, g, hD⟩ := bd hD
  refine ew_getR 8 2 dX9_ruleAt_1 rfl (Nat.le_of_ble_eq_true rfl) w_1267 in_X9 rfl g ?_
  refine ev_iconst dX9_ruleAt_4 (mi_c rfl) ?_
  refine ev_iconst dX9_ruleAt_5 (mi_c rfl) ?_
  refine ev_iload_n dX9_ruleAt_6 1 rfl rfl ?_
  refine ev_imul dX9_ruleAt_7 ?_
  refine ev_iadd dX9_ruleAt_8 ?_
  refine ev_iload_n dX9_ruleAt_9 2 rfl rfl ?_
  refine ev_iadd dX9_ruleAt_10 ?_
  obtain ⟨v2, g, hD⟩ := bd hD
  refine ew_iald dX9_ruleAt_11 g ?_
  cases hD
  exact ev_ret (some (vi _)) dX9_ruleAt_12 True.intro
theorem ct_X9_ruleAt {G : mG} {x0 : Nat} {x1 : Int} {x2 : Int} {σ : mS} {R : Int} (hD : D_X9_ruleAt x0 x1 x2 σ = some R) : Ct G M_X9_ruleAt [vr x0, vi x1, vi x2] σ (.inl (some (vi R))) σ := ct_of rfl (by decide +kernel) rfl (Nat.le_of_ble_eq_true rfl) rfl (lk_X9_ruleAt hD)
def D_X9_sampleAt (x0 : Nat) (x1 : Int) (x2 : Int) (σ : mS) : Option Int :=
  (gR σ x0 8 2).bind fun v1 =>
  (lI σ v1 (mw ((mw (123 + (mw (15 * x1)))) + x2))).bind fun v2 =>
  some v2
set_option maxRecDepth 100000 in
set_option maxHeartbeats 4000000 in
theorem lk_X9_sampleAt {G : mG} {x0 : Nat} {x1 : Int} {x2 : Int} {σ : mS} {R : Int} (hD : D_X9_sampleAt x0 x1 x2 σ = some R) : Ev G M_X9_sampleAt 0 [(0, vr x0), (1, vi x1), (2, vi x2)] [] σ (.inl (some (vi R))) σ := by
  unfold D_X9_sampleAt at hD
  refine ev_aload_n dX9_sampleAt_0 0 rfl rfl ?_
  obtain ⟨v1, g, hD⟩ := bd hD
  refine ew_getR 8 2 dX9_sampleAt_1 rfl (Nat.le_of_ble_eq_true rfl) w_1267 in_X9 rfl g ?_
  refine ev_bp dX9_sampleAt_4 rfl ?_
  refine ev_bp dX9_sampleAt_6 rfl ?_
  refine ev_iload_n dX9_sampleAt_8 1 rfl rfl ?_
  refine ev_imul dX9_sampleAt_9 ?_
  refine ev_iadd dX9_sampleAt_10 ?_
  refine ev_iload_n dX9_sampleAt_11 2 rfl rfl ?_
  refine ev_iadd dX9_sampleAt_12 ?_
  obtain ⟨v2, g, hD⟩ := bd hD
  refine ew_iald dX9_sampleAt_13 g ?_
  cases hD
  exact ev_ret (some (vi _)) dX9_sampleAt_14 True.intro
theorem ct_X9_sampleAt {G : mG} {x0 : Nat} {x1 : Int} {x2 : Int} {σ : mS} {R : Int} (hD : D_X9_sampleAt x0 x1 x2 σ = some R) : Ct G M_X9_sampleAt [vr x0, vi x1, vi x2] σ (.inl (some (vi R))) σ := ct_of rfl (by decide +kernel) rfl (Nat.le_of_ble_eq_true rfl) rfl (lk_X9_sampleAt hD)
def D_X9_ageOf_25 (σ : mS) : Option Int :=
  some ((-1))
set_option maxRecDepth 100000 in
set_option maxHeartbeats 4000000 in
theorem lk_X9_ageOf_25 {G : mG} {σ : mS} {R : Int} (hD : D_X9_ageOf_25  σ = some R) : Ev G M_X9_ageOf 25 [] [] σ (.inl (some (vi R))) σ := by
  unfold D_X9_ageOf_25 at hD
  refine ev_iconst dX9_ageOf_25 (mi_c rfl) ?_
  cases hD
  exact ev_ret (some (vi _)) dX9_ageOf_26 True.intro
def D_X9_ageOf_29 : Nat → Nat → Int → Int → mS → Option Int
  | 0, _, _, _, _ => none
  | f + 1, x0, x1, x2, σ =>
    (gI σ x0 8 8).bind fun v1 =>
    if v1 ≤ (mw (x2 + 2)) then
      some x2
    else
      (gR σ x0 8 9).bind fun v2 =>
      (lI σ v2 (mw (x2 + 1))).bind fun v3 =>
      if x1 ≤ v3 then
        some x2
      else
        (D_X9_ageOf_29 f) x0 x1 (mw (x2 + 1)) σ
set_option maxRecDepth 100000 in
set_option maxHeartbeats 4000000 in
theorem lk_X9_ageOf_29 {G : mG} (f : Nat) : ∀ {x0 : Nat} {x1 : Int} {x2 : Int} {σ : mS} {R : Int}, D_X9_ageOf_29 f x0 x1 x2 σ = some R → ∀ {r : mX} {τ : mS}, Ev G M_X9_ageOf 57 [(0, vr x0), (1, vi x1), (2, vi (R))] [] σ r τ → Ev G M_X9_ageOf 29 [(0, vr x0), (1, vi x1), (2, vi x2)] [] σ r τ := by
  induction f with
  | zero =>
    intros
    rename_i hD _ _ _
    cases hD
  | succ f ih =>
    intro x0 x1 x2 σ R hD r τ hk
    have hrec := @ih
    rw [D_X9_ageOf_29] at hD
    refine ev_iload_n dX9_ageOf_29 2 rfl rfl ?_
    refine ev_iconst dX9_ageOf_30 (mi_c rfl) ?_
    refine ev_iadd dX9_ageOf_31 ?_
    refine ev_aload_n dX9_ageOf_32 0 rfl rfl ?_
    obtain ⟨v1, g, hD⟩ := bd hD
    refine ew_getI 8 8 dX9_ageOf_33 rfl (Nat.le_of_ble_eq_true rfl) w_1273 in_X9 rfl g ?_
    by_cases c : v1 ≤ (mw (x2 + 2))
    · rw [if_pos c] at hD
      refine ev_icmp_ge_t (tgt := 57) dX9_ageOf_36 (by decide) c ?_
      cases hD
      exact hk
    · rw [if_neg c] at hD
      refine ev_icmp_ge_f 57 dX9_ageOf_36 (by decide) c ?_
      refine ev_aload_n dX9_ageOf_39 0 rfl rfl ?_
      obtain ⟨v2, g, hD⟩ := bd hD
      refine ew_getR 8 9 dX9_ageOf_40 rfl (Nat.le_of_ble_eq_true rfl) w_1274 in_X9 rfl g ?_
      refine ev_iload_n dX9_ageOf_43 2 rfl rfl ?_
      refine ev_iconst dX9_ageOf_44 (mi_c rfl) ?_
      refine ev_iadd dX9_ageOf_45 ?_
      obtain ⟨v3, g, hD⟩ := bd hD
      refine ew_iald dX9_ageOf_46 g ?_
      refine ev_iload_n dX9_ageOf_47 1 rfl rfl ?_
      by_cases c : x1 ≤ v3
      · rw [if_pos c] at hD
        refine ev_icmp_ge_t (tgt := 57) dX9_ageOf_48 (by decide) c ?_
        cases hD
        exact hk
      · rw [if_neg c] at hD
        refine ev_icmp_ge_f 57 dX9_ageOf_48 (by decide) c ?_
        refine ev_iinc dX9_ageOf_51 2 rfl (Nat.le_of_ble_eq_true rfl) rfl ?_
        refine ev_goto (tgt := 29) dX9_ageOf_54 (by decide) ?_
        refine Ev.pick [1, 2, 0] rfl ?_
        exact hrec hD hk
def D_X9_ageOf_57 (x0 : Nat) (x1 : Int) (x2 : Int) (σ : mS) : Option Int :=
  (gR σ x0 8 9).bind fun v1 =>
  (lI σ v1 (mw (x2 + 1))).bind fun v2 =>
  (gR σ x0 8 9).bind fun v3 =>
  (lI σ v3 x2).bind fun v4 =>
  (gR σ x0 8 10).bind fun v5 =>
  (lI σ v5 x2).bind fun v6 =>
  (gR σ x0 8 10).bind fun v7 =>
  (lI σ v7 (mw (x2 + 1))).bind fun v8 =>
  (gR σ x0 8 10).bind fun v9 =>
  (lI σ v9 x2).bind fun v10 =>
  (gR σ x0 8 9).bind fun v11 =>
  (lI σ v11 x2).bind fun v12 =>
  (dvO (mw ((mw (v8 - v10)) * (mw (x1 - v12)))) (mw (v2 - v4))).bind fun v13 =>
  some (mw (v6 + v13))
set_option maxRecDepth 100000 in
set_option maxHeartbeats 4000000 in
theorem lk_X9_ageOf_57 {G : mG} {x0 : Nat} {x1 : Int} {x2 : Int} {σ : mS} {R : Int} (hD : D_X9_ageOf_57 x0 x1 x2 σ = some R) : Ev G M_X9_ageOf 57 [(0, vr x0), (1, vi x1), (2, vi x2)] [] σ (.inl (some (vi R))) σ := by
  unfold D_X9_ageOf_57 at hD
  refine ev_aload_n dX9_ageOf_57 0 rfl rfl ?_
  obtain ⟨v1, g, hD⟩ := bd hD
  refine ew_getR 8 9 dX9_ageOf_58 rfl (Nat.le_of_ble_eq_true rfl) w_1274 in_X9 rfl g ?_
  refine ev_iload_n dX9_ageOf_61 2 rfl rfl ?_
  refine ev_iconst dX9_ageOf_62 (mi_c rfl) ?_
  refine ev_iadd dX9_ageOf_63 ?_
  obtain ⟨v2, g, hD⟩ := bd hD
  refine ew_iald dX9_ageOf_64 g ?_
  refine ev_aload_n dX9_ageOf_65 0 rfl rfl ?_
  obtain ⟨v3, g, hD⟩ := bd hD
  refine ew_getR 8 9 dX9_ageOf_66 rfl (Nat.le_of_ble_eq_true rfl) w_1274 in_X9 rfl g ?_
  refine ev_iload_n dX9_ageOf_69 2 rfl rfl ?_
  obtain ⟨v4, g, hD⟩ := bd hD
  refine ew_iald dX9_ageOf_70 g ?_
  refine ev_isub dX9_ageOf_71 ?_
  refine ev_istore_n dX9_ageOf_72 rfl (Nat.le_of_ble_eq_true rfl) rfl ?_
  refine ev_aload_n dX9_ageOf_73 1 rfl rfl ?_
  obtain ⟨v5, g, hD⟩ := bd hD
  refine ew_getR 8 10 dX9_ageOf_74 rfl (Nat.le_of_ble_eq_true rfl) w_1275 in_X9 rfl g ?_
  refine ev_iload_n dX9_ageOf_77 3 rfl rfl ?_
  obtain ⟨v6, g, hD⟩ := bd hD
  refine ew_iald dX9_ageOf_78 g ?_
  refine ev_aload_n dX9_ageOf_79 1 rfl rfl ?_
  obtain ⟨v7, g, hD⟩ := bd hD
  refine ew_getR 8 10 dX9_ageOf_80 rfl (Nat.le_of_ble_eq_true rfl) w_1275 in_X9 rfl g ?_
  refine ev_iload_n dX9_ageOf_83 3 rfl rfl ?_
  refine ev_iconst dX9_ageOf_84 (mi_c rfl) ?_
  refine ev_iadd dX9_ageOf_85 ?_
  obtain ⟨v8, g, hD⟩ := bd hD
  refine ew_iald dX9_ageOf_86 g ?_
  refine ev_aload_n dX9_ageOf_87 1 rfl rfl ?_
  obtain ⟨v9, g, hD⟩ := bd hD
  refine ew_getR 8 10 dX9_ageOf_88 rfl (Nat.le_of_ble_eq_true rfl) w_1275 in_X9 rfl g ?_
  refine ev_iload_n dX9_ageOf_91 3 rfl rfl ?_
  obtain ⟨v10, g, hD⟩ := bd hD
  refine ew_iald dX9_ageOf_92 g ?_
  refine ev_isub dX9_ageOf_93 ?_
  refine ev_iload_n dX9_ageOf_94 2 rfl rfl ?_
  refine ev_aload_n dX9_ageOf_95 1 rfl rfl ?_
  obtain ⟨v11, g, hD⟩ := bd hD
  refine ew_getR 8 9 dX9_ageOf_96 rfl (Nat.le_of_ble_eq_true rfl) w_1274 in_X9 rfl g ?_
  refine ev_iload_n dX9_ageOf_99 3 rfl rfl ?_
  obtain ⟨v12, g, hD⟩ := bd hD
  refine ew_iald dX9_ageOf_100 g ?_
  refine ev_isub dX9_ageOf_101 ?_
  refine ev_imul dX9_ageOf_102 ?_
  refine ev_iload_n dX9_ageOf_103 0 rfl rfl ?_
  obtain ⟨v13, g, hD⟩ := bd hD
  refine ew_idiv dX9_ageOf_104 g ?_
  refine ev_iadd dX9_ageOf_105 ?_
  cases hD
  exact ev_ret (some (vi _)) dX9_ageOf_106 True.intro
def D_X9_ageOf (x0 : Nat) (x1 : Int) (σ : mS) : Option Int :=
  (gR σ x0 8 9).bind fun v1 =>
  (lI σ v1 0).bind fun v2 =>
  if x1 < v2 then
    D_X9_ageOf_25  σ
  else
    (gR σ x0 8 9).bind fun v3 =>
    (gI σ x0 8 8).bind fun v4 =>
    (lI σ v3 (mw (v4 - 1))).bind fun v5 =>
    if x1 ≤ v5 then
      (D_X9_ageOf_29 mFU x0 x1 0 σ).bind fun r6 =>
      D_X9_ageOf_57 x0 x1 r6 σ
    else
      D_X9_ageOf_25  σ
set_option maxRecDepth 100000 in
set_option maxHeartbeats 4000000 in
theorem lk_X9_ageOf {G : mG} {x0 : Nat} {x1 : Int} {σ : mS} {R : Int} (hD : D_X9_ageOf x0 x1 σ = some R) : Ev G M_X9_ageOf 0 [(0, vr x0), (1, vi x1)] [] σ (.inl (some (vi R))) σ := by
  unfold D_X9_ageOf at hD
  refine ev_iload_n dX9_ageOf_0 1 rfl rfl ?_
  refine ev_aload_n dX9_ageOf_1 0 rfl rfl ?_
  obtain ⟨v1, g, hD⟩ := bd hD
  refine ew_getR 8 9 dX9_ageOf_2 rfl (Nat.le_of_ble_eq_true rfl) w_1274 in_X9 rfl g ?_
  refine ev_iconst dX9_ageOf_5 (mi_c rfl) ?_
  obtain ⟨v2, g, hD⟩ := bd hD
  refine ew_iald dX9_ageOf_6 g ?_
  by_cases c : x1 < v2
  · rw [if_pos c] at hD
    refine ev_icmp_lt_t (tgt := 25) dX9_ageOf_7 (by decide) c ?_
    refine Ev.pick [] rfl ?_
    exact lk_X9_ageOf_25 hD
  · rw [if_neg c] at hD
    refine ev_icmp_lt_f 25 dX9_ageOf_7 (by decide) c ?_
    refine ev_iload_n dX9_ageOf_10 1 rfl rfl ?_
    refine ev_aload_n dX9_ageOf_11 0 rfl rfl ?_
    obtain ⟨v3, g, hD⟩ := bd hD
    refine ew_getR 8 9 dX9_ageOf_12 rfl (Nat.le_of_ble_eq_true rfl) w_1274 in_X9 rfl g ?_
    refine ev_aload_n dX9_ageOf_15 0 rfl rfl ?_
    obtain ⟨v4, g, hD⟩ := bd hD
    refine ew_getI 8 8 dX9_ageOf_16 rfl (Nat.le_of_ble_eq_true rfl) w_1273 in_X9 rfl g ?_
    refine ev_iconst dX9_ageOf_19 (mi_c rfl) ?_
    refine ev_isub dX9_ageOf_20 ?_
    obtain ⟨v5, g, hD⟩ := bd hD
    refine ew_iald dX9_ageOf_21 g ?_
    by_cases c : x1 ≤ v5
    · rw [if_pos c] at hD
      refine ev_icmp_le_t (tgt := 27) dX9_ageOf_22 (by decide) c ?_
      refine ev_iconst dX9_ageOf_27 (mi_c rfl) ?_
      refine ev_istore_n dX9_ageOf_28 rfl (Nat.le_of_ble_eq_true rfl) rfl ?_
      obtain ⟨r6, g, hD⟩ := bd hD
      refine Ev.pick [1, 2, 0] rfl ?_
      refine lk_X9_ageOf_29 mFU g ?_
      exact lk_X9_ageOf_57 hD
    · rw [if_neg c] at hD
      refine ev_icmp_le_f 27 dX9_ageOf_22 (by decide) c ?_
      refine Ev.pick [] rfl ?_
      exact lk_X9_ageOf_25 hD
theorem ct_X9_ageOf {G : mG} {x0 : Nat} {x1 : Int} {σ : mS} {R : Int} (hD : D_X9_ageOf x0 x1 σ = some R) : Ct G M_X9_ageOf [vr x0, vi x1] σ (.inl (some (vi R))) σ := ct_of rfl (by decide +kernel) rfl (Nat.le_of_ble_eq_true rfl) rfl (lk_X9_ageOf hD)
def D_X9_misfitOf_48 : Nat → Nat → Int → Int → Int → Int → mS → Option (Int ⊕ Int)
  | 0, _, _, _, _, _, _ => none
  | f + 1, x0, x1, x2, x3, x4, σ =>
    (tgO σ x0 8).bind fun _ =>
    (D_X9_sampleAt x0 x1 2 σ).bind fun r1 =>
    if r1 ≤ x4 then
      some (Sum.inl x3)
    else
      (tgO σ x0 8).bind fun _ =>
      (D_X9_sampleAt x0 x1 (mw (3 + x4)) σ).bind fun r2 =>
      (tgO σ x0 8).bind fun _ =>
      (D_X9_ageOf x0 (mw (x2 + r2)) σ).bind fun r3 =>
      if r3 ≠ ((-1)) then
        (gR σ x0 8 2).bind fun v4 =>
        (lI σ v4 1).bind fun v5 =>
        (tgO σ x0 8).bind fun _ =>
        (D_X9_sampleAt x0 x1 (mw (9 + x4)) σ).bind fun r6 =>
        (D_X9_misfitOf_48 f) x0 x1 x2 (mw (x3 + (if 0 ≤ (mw ((mw (r3 + v5)) - r6)) then (mw ((mw (r3 + v5)) - r6)) else mw (0 - (mw ((mw (r3 + v5)) - r6)))))) (mw (x4 + 1)) σ
      else
        some (Sum.inr ((-1)))
set_option maxRecDepth 100000 in
set_option maxHeartbeats 4000000 in
theorem lk_X9_misfitOf_48 {G : mG} (f : Nat) : ∀ {x0 : Nat} {x1 : Int} {x2 : Int} {x3 : Int} {x4 : Int} {σ : mS} {R : (Int ⊕ Int)}, D_X9_misfitOf_48 f x0 x1 x2 x3 x4 σ = some R → ∀ {r : mX} {τ : mS}, (∀ z, R = (Sum.inl z) → Ev G M_X9_misfitOf 116 [(3, vi (z))] [] σ r τ) ∧ (∀ z, R = (Sum.inr z) → r = .inl (some (vi z)) ∧ τ = σ) → Ev G M_X9_misfitOf 48 [(0, vr x0), (1, vi x1), (2, vi x2), (3, vi x3), (4, vi x4)] [] σ r τ := by
  induction f with
  | zero =>
    intros
    rename_i hD _ _ _
    cases hD
  | succ f ih =>
    intro x0 x1 x2 x3 x4 σ R hD r τ hk
    have hrec := @ih
    rw [D_X9_misfitOf_48] at hD
    refine ev_iload dX9_misfitOf_48 4 rfl ?_
    refine ev_aload_n dX9_misfitOf_50 0 rfl rfl ?_
    refine ev_iload_n dX9_misfitOf_51 1 rfl rfl ?_
    refine ev_iconst dX9_misfitOf_52 (mi_c rfl) ?_
    obtain ⟨_, g0, hD⟩ := bd hD
    obtain ⟨r1, g, hD⟩ := bd hD
    refine ew_callVv (as := [vi x1, vi 2]) (a := x0) (rest := [vi x4]) dX9_misfitOf_53 v_X9_sampleAt w_1597 rfl (Nat.le_of_ble_eq_true rfl) rfl rfl g0 (Nat.le_of_ble_eq_true rfl) (Nat.le_of_ble_eq_true rfl) (ct_X9_sampleAt g) ?_
    by_cases c : r1 ≤ x4
    · rw [if_pos c] at hD
      refine ev_icmp_ge_t (tgt := 116) dX9_misfitOf_56 (by decide) c ?_
      cases hD
      refine Ev.pick [3] rfl ?_
      exact hk.1 _ rfl
    · rw [if_neg c] at hD
      refine ev_icmp_ge_f 116 dX9_misfitOf_56 (by decide) c ?_
      refine ev_aload_n dX9_misfitOf_59 0 rfl rfl ?_
      refine ev_iload_n dX9_misfitOf_60 2 rfl rfl ?_
      refine ev_aload_n dX9_misfitOf_61 0 rfl rfl ?_
      refine ev_iload_n dX9_misfitOf_62 1 rfl rfl ?_
      refine ev_iconst dX9_misfitOf_63 (mi_c rfl) ?_
      refine ev_iload dX9_misfitOf_64 4 rfl ?_
      refine ev_iadd dX9_misfitOf_66 ?_
      obtain ⟨_, g0, hD⟩ := bd hD
      obtain ⟨r2, g, hD⟩ := bd hD
      refine ew_callVv (as := [vi x1, vi (mw (3 + x4))]) (a := x0) (rest := [vi x2, vr x0]) dX9_misfitOf_67 v_X9_sampleAt w_1597 rfl (Nat.le_of_ble_eq_true rfl) rfl rfl g0 (Nat.le_of_ble_eq_true rfl) (Nat.le_of_ble_eq_true rfl) (ct_X9_sampleAt g) ?_
      refine ev_iadd dX9_misfitOf_70 ?_
      obtain ⟨_, g0, hD⟩ := bd hD
      obtain ⟨r3, g, hD⟩ := bd hD
      refine ew_callVv (as := [vi (mw (x2 + r2))]) (a := x0) (rest := []) dX9_misfitOf_71 v_X9_ageOf w_1637 rfl (Nat.le_of_ble_eq_true rfl) rfl rfl g0 (Nat.le_of_ble_eq_true rfl) (Nat.le_of_ble_eq_true rfl) (ct_X9_ageOf g) ?_
      refine ev_istore dX9_misfitOf_74 (Nat.le_of_ble_eq_true rfl) rfl ?_
      refine ev_iload dX9_misfitOf_76 0 rfl ?_
      refine ev_iconst dX9_misfitOf_78 (mi_c rfl) ?_
      by_cases c : r3 ≠ ((-1))
      · rw [if_pos c] at hD
        refine ev_icmp_ne_t (tgt := 84) dX9_misfitOf_79 (by decide) c ?_
        refine ev_iload_n dX9_misfitOf_84 4 rfl rfl ?_
        refine ev_iload dX9_misfitOf_85 0 rfl ?_
        refine ev_aload_n dX9_misfitOf_87 1 rfl rfl ?_
        obtain ⟨v4, g, hD⟩ := bd hD
        refine ew_getR 8 2 dX9_misfitOf_88 rfl (Nat.le_of_ble_eq_true rfl) w_1267 in_X9 rfl g ?_
        refine ev_iconst dX9_misfitOf_91 (mi_c rfl) ?_
        obtain ⟨v5, g, hD⟩ := bd hD
        refine ew_iald dX9_misfitOf_92 g ?_
        refine ev_iadd dX9_misfitOf_93 ?_
        refine ev_aload_n dX9_misfitOf_94 1 rfl rfl ?_
        refine ev_iload_n dX9_misfitOf_95 2 rfl rfl ?_
        refine ev_bp dX9_misfitOf_96 rfl ?_
        refine ev_iload dX9_misfitOf_98 5 rfl ?_
        refine ev_iadd dX9_misfitOf_100 ?_
        obtain ⟨_, g0, hD⟩ := bd hD
        obtain ⟨r6, g, hD⟩ := bd hD
        refine ew_callVv (as := [vi x1, vi (mw (9 + x4))]) (a := x0) (rest := [vi (mw (r3 + v5)), vi x3]) dX9_misfitOf_101 v_X9_sampleAt w_1597 rfl (Nat.le_of_ble_eq_true rfl) rfl rfl g0 (Nat.le_of_ble_eq_true rfl) (Nat.le_of_ble_eq_true rfl) (ct_X9_sampleAt g) ?_
        refine ev_isub dX9_misfitOf_104 ?_
        refine ev_mabs dX9_misfitOf_105 w_1641 w_506 w_133 w_507 (Nat.le_of_ble_eq_true rfl) (Nat.le_of_ble_eq_true rfl) (Nat.le_of_ble_eq_true rfl) ?_
        refine ev_iadd dX9_misfitOf_108 ?_
        refine ev_istore_n dX9_misfitOf_109 rfl (Nat.le_of_ble_eq_true rfl) rfl ?_
        refine ev_iinc dX9_misfitOf_110 5 rfl (Nat.le_of_ble_eq_true rfl) rfl ?_
        refine ev_goto (tgt := 48) dX9_misfitOf_113 (by decide) ?_
        refine Ev.pick [3, 4, 5, 1, 0] rfl ?_
        exact hrec hD hk
      · rw [if_neg c] at hD
        refine ev_icmp_ne_f 84 dX9_misfitOf_79 (by decide) c ?_
        refine ev_iconst dX9_misfitOf_82 (mi_c rfl) ?_
        cases hD
        obtain ⟨rfl, rfl⟩ := hk.2 _ rfl
        exact ev_ret (some (vi _)) dX9_misfitOf_83 True.intro
def D_X9_misfitOf_42 (y0 : Int) (σ : mS) : Option Int :=
  some y0
set_option maxRecDepth 100000 in
set_option maxHeartbeats 4000000 in
theorem lk_X9_misfitOf_42 {G : mG} {y0 : Int} {σ : mS} {R : Int} (hD : D_X9_misfitOf_42 y0 σ = some R) : Ev G M_X9_misfitOf 42 [] [vi y0] σ (.inl (some (vi R))) σ := by
  unfold D_X9_misfitOf_42 at hD
  cases hD
  exact ev_ret (some (vi _)) dX9_misfitOf_42 True.intro
def D_X9_misfitOf (x0 : Nat) (x1 : Int) (x2 : Int) (σ : mS) : Option Int :=
  (tgO σ x0 8).bind fun _ =>
  (D_X9_sampleAt x0 x1 0 σ).bind fun r1 =>
  if r1 ≠ 0 then
    (D_X9_misfitOf_48 mFU x0 x1 x2 0 0 σ).bind fun r2 =>
    match r2 with
    | (Sum.inl z3) =>
      some z3
    | (Sum.inr z4) =>
      some z4
  else
    (tgO σ x0 8).bind fun _ =>
    (D_X9_ageOf x0 x2 σ).bind fun r5 =>
    if r5 ≠ ((-1)) then
      (gR σ x0 8 2).bind fun v6 =>
      (lI σ v6 1).bind fun v7 =>
      (tgO σ x0 8).bind fun _ =>
      (D_X9_sampleAt x0 x1 1 σ).bind fun r8 =>
      D_X9_misfitOf_42 (if 0 ≤ (mw ((mw (r5 + v7)) - r8)) then (mw ((mw (r5 + v7)) - r8)) else mw (0 - (mw ((mw (r5 + v7)) - r8)))) σ
    else
      D_X9_misfitOf_42 ((-1)) σ
set_option maxRecDepth 100000 in
set_option maxHeartbeats 4000000 in
theorem lk_X9_misfitOf {G : mG} {x0 : Nat} {x1 : Int} {x2 : Int} {σ : mS} {R : Int} (hD : D_X9_misfitOf x0 x1 x2 σ = some R) : Ev G M_X9_misfitOf 0 [(0, vr x0), (1, vi x1), (2, vi x2)] [] σ (.inl (some (vi R))) σ := by
  unfold D_X9_misfitOf at hD
  refine ev_aload_n dX9_misfitOf_0 0 rfl rfl ?_
  refine ev_iload_n dX9_misfitOf_1 1 rfl rfl ?_
  refine ev_iconst dX9_misfitOf_2 (mi_c rfl) ?_
  obtain ⟨_, g0, hD⟩ := bd hD
  obtain ⟨r1, g, hD⟩ := bd hD
  refine ew_callVv (as := [vi x1, vi 0]) (a := x0) (rest := []) dX9_misfitOf_3 v_X9_sampleAt w_1597 rfl (Nat.le_of_ble_eq_true rfl) rfl rfl g0 (Nat.le_of_ble_eq_true rfl) (Nat.le_of_ble_eq_true rfl) (ct_X9_sampleAt g) ?_
  by_cases c : r1 ≠ 0
  · rw [if_pos c] at hD
    refine ev_if_ne_t (tgt := 43) dX9_misfitOf_6 (by decide) c ?_
    refine ev_iconst dX9_misfitOf_43 (mi_c rfl) ?_
    refine ev_istore_n dX9_misfitOf_44 rfl (Nat.le_of_ble_eq_true rfl) rfl ?_
    refine ev_iconst dX9_misfitOf_45 (mi_c rfl) ?_
    refine ev_istore dX9_misfitOf_46 (Nat.le_of_ble_eq_true rfl) rfl ?_
    obtain ⟨r2, g, hD⟩ := bd hD
    refine Ev.pick [2, 3, 4, 1, 0] rfl ?_
    rcases r2 with z3 | z4
    · refine lk_X9_misfitOf_48 mFU g ⟨(fun _ hz => ?_), (fun _ hz => nomatch hz)⟩
      cases hz
      refine ev_iload_n dX9_misfitOf_116 0 rfl rfl ?_
      cases hD
      exact ev_ret (some (vi _)) dX9_misfitOf_117 True.intro
    · refine lk_X9_misfitOf_48 mFU g ⟨(fun _ hz => nomatch hz), (fun _ hz => ?_)⟩
      cases hz
      cases hD
      exact ⟨rfl, rfl⟩
  · rw [if_neg c] at hD
    refine ev_if_ne_f 43 dX9_misfitOf_6 (by decide) c ?_
    refine ev_aload_n dX9_misfitOf_9 0 rfl rfl ?_
    refine ev_iload_n dX9_misfitOf_10 2 rfl rfl ?_
    obtain ⟨_, g0, hD⟩ := bd hD
    obtain ⟨r5, g, hD⟩ := bd hD
    refine ew_callVv (as := [vi x2]) (a := x0) (rest := []) dX9_misfitOf_11 v_X9_ageOf w_1637 rfl (Nat.le_of_ble_eq_true rfl) rfl rfl g0 (Nat.le_of_ble_eq_true rfl) (Nat.le_of_ble_eq_true rfl) (ct_X9_ageOf g) ?_
    refine ev_istore_n dX9_misfitOf_14 rfl (Nat.le_of_ble_eq_true rfl) rfl ?_
    refine ev_iload_n dX9_misfitOf_15 0 rfl rfl ?_
    refine ev_iconst dX9_misfitOf_16 (mi_c rfl) ?_
    by_cases c : r5 ≠ ((-1))
    · rw [if_pos c] at hD
      refine ev_icmp_ne_t (tgt := 24) dX9_misfitOf_17 (by decide) c ?_
      refine ev_iload_n dX9_misfitOf_24 0 rfl rfl ?_
      refine ev_aload_n dX9_misfitOf_25 1 rfl rfl ?_
      obtain ⟨v6, g, hD⟩ := bd hD
      refine ew_getR 8 2 dX9_misfitOf_26 rfl (Nat.le_of_ble_eq_true rfl) w_1267 in_X9 rfl g ?_
      refine ev_iconst dX9_misfitOf_29 (mi_c rfl) ?_
      obtain ⟨v7, g, hD⟩ := bd hD
      refine ew_iald dX9_misfitOf_30 g ?_
      refine ev_iadd dX9_misfitOf_31 ?_
      refine ev_aload_n dX9_misfitOf_32 1 rfl rfl ?_
      refine ev_iload_n dX9_misfitOf_33 2 rfl rfl ?_
      refine ev_iconst dX9_misfitOf_34 (mi_c rfl) ?_
      obtain ⟨_, g0, hD⟩ := bd hD
      obtain ⟨r8, g, hD⟩ := bd hD
      refine ew_callVv (as := [vi x1, vi 1]) (a := x0) (rest := [vi (mw (r5 + v7))]) dX9_misfitOf_35 v_X9_sampleAt w_1597 rfl (Nat.le_of_ble_eq_true rfl) rfl rfl g0 (Nat.le_of_ble_eq_true rfl) (Nat.le_of_ble_eq_true rfl) (ct_X9_sampleAt g) ?_
      refine ev_isub dX9_misfitOf_38 ?_
      refine ev_mabs dX9_misfitOf_39 w_1641 w_506 w_133 w_507 (Nat.le_of_ble_eq_true rfl) (Nat.le_of_ble_eq_true rfl) (Nat.le_of_ble_eq_true rfl) ?_
      refine Ev.pick [] rfl ?_
      exact lk_X9_misfitOf_42 hD
    · rw [if_neg c] at hD
      refine ev_icmp_ne_f 24 dX9_misfitOf_17 (by decide) c ?_
      refine ev_iconst dX9_misfitOf_20 (mi_c rfl) ?_
      refine ev_goto (tgt := 42) dX9_misfitOf_21 (by decide) ?_
      refine Ev.pick [] rfl ?_
      exact lk_X9_misfitOf_42 hD
theorem ct_X9_misfitOf {G : mG} {x0 : Nat} {x1 : Int} {x2 : Int} {σ : mS} {R : Int} (hD : D_X9_misfitOf x0 x1 x2 σ = some R) : Ct G M_X9_misfitOf [vr x0, vi x1, vi x2] σ (.inl (some (vi R))) σ := ct_of rfl (by decide +kernel) rfl (Nat.le_of_ble_eq_true rfl) rfl (lk_X9_misfitOf hD)
def D_X9_leastMisfit_39 (rec : Nat → Int → Int → Int → mS → Option Int) (x0 : Nat) (x1 : Int) (x2 : Int) (x3 : Int) (σ : mS) : Option Int :=
  rec x0 x1 x2 (mw (x3 + 1)) σ
set_option maxRecDepth 100000 in
set_option maxHeartbeats 4000000 in
theorem lk_X9_leastMisfit_39 {G : mG} {rec : Nat → Int → Int → Int → mS → Option Int} {x0 : Nat} {x1 : Int} {x2 : Int} {x3 : Int} {σ : mS} {R : Int} {r : mX} {τ : mS} (hD : D_X9_leastMisfit_39 rec x0 x1 x2 x3 σ = some R) (hrec : ∀ {x0 : Nat} {x1 : Int} {x2 : Int} {x3 : Int} {σ : mS} {R : Int}, rec x0 x1 x2 x3 σ = some R → ∀ {r : mX} {τ : mS}, Ev G M_X9_leastMisfit 45 [(2, vi (R))] [] σ r τ → Ev G M_X9_leastMisfit 4 [(0, vr x0), (1, vi x1), (2, vi x2), (3, vi x3)] [] σ r τ) (hk : Ev G M_X9_leastMisfit 45 [(2, vi (R))] [] σ r τ) : Ev G M_X9_leastMisfit 39 [(0, vr x0), (1, vi x1), (2, vi x2), (3, vi x3)] [] σ r τ := by
  unfold D_X9_leastMisfit_39 at hD
  refine ev_iinc dX9_leastMisfit_39 3 rfl (Nat.le_of_ble_eq_true rfl) rfl ?_
  refine ev_goto (tgt := 4) dX9_leastMisfit_42 (by decide) ?_
  refine Ev.pick [1, 2, 3, 0] rfl ?_
  exact hrec hD hk
def D_X9_leastMisfit_36 (rec : Nat → Int → Int → Int → mS → Option Int) (x0 : Nat) (x1 : Int) (x3 : Int) (x4 : Int) (σ : mS) : Option Int :=
  D_X9_leastMisfit_39 rec x0 x1 x4 x3 σ
set_option maxRecDepth 100000 in
set_option maxHeartbeats 4000000 in
theorem lk_X9_leastMisfit_36 {G : mG} {rec : Nat → Int → Int → Int → mS → Option Int} {x0 : Nat} {x1 : Int} {x3 : Int} {x4 : Int} {σ : mS} {R : Int} {r : mX} {τ : mS} (hD : D_X9_leastMisfit_36 rec x0 x1 x3 x4 σ = some R) (hrec : ∀ {x0 : Nat} {x1 : Int} {x2 : Int} {x3 : Int} {σ : mS} {R : Int}, rec x0 x1 x2 x3 σ = some R → ∀ {r : mX} {τ : mS}, Ev G M_X9_leastMisfit 45 [(2, vi (R))] [] σ r τ → Ev G M_X9_leastMisfit 4 [(0, vr x0), (1, vi x1), (2, vi x2), (3, vi x3)] [] σ r τ) (hk : Ev G M_X9_leastMisfit 45 [(2, vi (R))] [] σ r τ) : Ev G M_X9_leastMisfit 36 [(0, vr x0), (1, vi x1), (3, vi x3), (4, vi x4)] [] σ r τ := by
  unfold D_X9_leastMisfit_36 at hD
  refine ev_iload dX9_leastMisfit_36 3 rfl ?_
  refine ev_istore_n dX9_leastMisfit_38 rfl (Nat.le_of_ble_eq_true rfl) rfl ?_
  refine Ev.pick [1, 2, 0, 3] rfl ?_
  exact lk_X9_leastMisfit_39 hD hrec hk
def D_X9_leastMisfit_4 : Nat → Nat → Int → Int → Int → mS → Option Int
  | 0, _, _, _, _, _ => none
  | f + 1, x0, x1, x2, x3, σ =>
    if 1000 ≤ x3 then
      some x2
    else
      (tgO σ x0 8).bind fun _ =>
      (D_X9_misfitOf x0 x1 x3 σ).bind fun r1 =>
      if r1 = ((-1)) then
        D_X9_leastMisfit_39 (D_X9_leastMisfit_4 f) x0 x1 x2 x3 σ
      else
        if x2 = ((-1)) then
          D_X9_leastMisfit_36 (D_X9_leastMisfit_4 f) x0 x1 x3 r1 σ
        else
          if x2 ≤ r1 then
            D_X9_leastMisfit_39 (D_X9_leastMisfit_4 f) x0 x1 x2 x3 σ
          else
            D_X9_leastMisfit_36 (D_X9_leastMisfit_4 f) x0 x1 x3 r1 σ
set_option maxRecDepth 100000 in
set_option maxHeartbeats 4000000 in
theorem lk_X9_leastMisfit_4 {G : mG} (f : Nat) : ∀ {x0 : Nat} {x1 : Int} {x2 : Int} {x3 : Int} {σ : mS} {R : Int}, D_X9_leastMisfit_4 f x0 x1 x2 x3 σ = some R → ∀ {r : mX} {τ : mS}, Ev G M_X9_leastMisfit 45 [(2, vi (R))] [] σ r τ → Ev G M_X9_leastMisfit 4 [(0, vr x0), (1, vi x1), (2, vi x2), (3, vi x3)] [] σ r τ := by
  induction f with
  | zero =>
    intros
    rename_i hD _ _ _
    cases hD
  | succ f ih =>
    intro x0 x1 x2 x3 σ R hD r τ hk
    have hrec := @ih
    rw [D_X9_leastMisfit_4] at hD
    refine ev_iload_n dX9_leastMisfit_4 3 rfl rfl ?_
    refine ev_sp dX9_leastMisfit_5 rfl ?_
    by_cases c : 1000 ≤ x3
    · rw [if_pos c] at hD
      refine ev_icmp_ge_t (tgt := 45) dX9_leastMisfit_8 (by decide) c ?_
      cases hD
      refine Ev.pick [2] rfl ?_
      exact hk
    · rw [if_neg c] at hD
      refine ev_icmp_ge_f 45 dX9_leastMisfit_8 (by decide) c ?_
      refine ev_aload_n dX9_leastMisfit_11 0 rfl rfl ?_
      refine ev_iload_n dX9_leastMisfit_12 1 rfl rfl ?_
      refine ev_iload_n dX9_leastMisfit_13 3 rfl rfl ?_
      obtain ⟨_, g0, hD⟩ := bd hD
      obtain ⟨r1, g, hD⟩ := bd hD
      refine ew_callVv (as := [vi x1, vi x3]) (a := x0) (rest := []) dX9_leastMisfit_14 v_X9_misfitOf w_1633 rfl (Nat.le_of_ble_eq_true rfl) rfl rfl g0 (Nat.le_of_ble_eq_true rfl) (Nat.le_of_ble_eq_true rfl) (ct_X9_misfitOf g) ?_
      refine ev_istore dX9_leastMisfit_17 (Nat.le_of_ble_eq_true rfl) rfl ?_
      refine ev_iload dX9_leastMisfit_19 0 rfl ?_
      refine ev_iconst dX9_leastMisfit_21 (mi_c rfl) ?_
      by_cases c : r1 = ((-1))
      · rw [if_pos c] at hD
        refine ev_icmp_eq_t (tgt := 39) dX9_leastMisfit_22 (by decide) c ?_
        refine Ev.pick [1, 2, 3, 4] rfl ?_
        exact lk_X9_leastMisfit_39 hD hrec hk
      · rw [if_neg c] at hD
        refine ev_icmp_eq_f 39 dX9_leastMisfit_22 (by decide) c ?_
        refine ev_iload_n dX9_leastMisfit_25 3 rfl rfl ?_
        refine ev_iconst dX9_leastMisfit_26 (mi_c rfl) ?_
        by_cases c : x2 = ((-1))
        · rw [if_pos c] at hD
          refine ev_icmp_eq_t (tgt := 36) dX9_leastMisfit_27 (by decide) c ?_
          refine Ev.pick [1, 2, 4, 0] rfl ?_
          exact lk_X9_leastMisfit_36 hD hrec hk
        · rw [if_neg c] at hD
          refine ev_icmp_eq_f 36 dX9_leastMisfit_27 (by decide) c ?_
          refine ev_iload dX9_leastMisfit_30 0 rfl ?_
          refine ev_iload_n dX9_leastMisfit_32 3 rfl rfl ?_
          by_cases c : x2 ≤ r1
          · rw [if_pos c] at hD
            refine ev_icmp_ge_t (tgt := 39) dX9_leastMisfit_33 (by decide) c ?_
            refine Ev.pick [1, 2, 3, 4] rfl ?_
            exact lk_X9_leastMisfit_39 hD hrec hk
          · rw [if_neg c] at hD
            refine ev_icmp_ge_f 39 dX9_leastMisfit_33 (by decide) c ?_
            refine Ev.pick [1, 2, 4, 0] rfl ?_
            exact lk_X9_leastMisfit_36 hD hrec hk
def D_X9_leastMisfit (x0 : Nat) (x1 : Int) (σ : mS) : Option Int :=
  (D_X9_leastMisfit_4 mFU x0 x1 ((-1)) 0 σ).bind fun r1 =>
  some r1
set_option maxRecDepth 100000 in
set_option maxHeartbeats 4000000 in
theorem lk_X9_leastMisfit {G : mG} {x0 : Nat} {x1 : Int} {σ : mS} {R : Int} (hD : D_X9_leastMisfit x0 x1 σ = some R) : Ev G M_X9_leastMisfit 0 [(0, vr x0), (1, vi x1)] [] σ (.inl (some (vi R))) σ := by
  unfold D_X9_leastMisfit at hD
  refine ev_iconst dX9_leastMisfit_0 (mi_c rfl) ?_
  refine ev_istore_n dX9_leastMisfit_1 rfl (Nat.le_of_ble_eq_true rfl) rfl ?_
  refine ev_iconst dX9_leastMisfit_2 (mi_c rfl) ?_
  refine ev_istore_n dX9_leastMisfit_3 rfl (Nat.le_of_ble_eq_true rfl) rfl ?_
  obtain ⟨r1, g, hD⟩ := bd hD
  refine Ev.pick [2, 3, 1, 0] rfl ?_
  refine lk_X9_leastMisfit_4 mFU g ?_
  refine ev_iload_n dX9_leastMisfit_45 0 rfl rfl ?_
  cases hD
  exact ev_ret (some (vi _)) dX9_leastMisfit_46 True.intro
theorem ct_X9_leastMisfit {G : mG} {x0 : Nat} {x1 : Int} {σ : mS} {R : Int} (hD : D_X9_leastMisfit x0 x1 σ = some R) : Ct G M_X9_leastMisfit [vr x0, vi x1] σ (.inl (some (vi R))) σ := ct_of rfl (by decide +kernel) rfl (Nat.le_of_ble_eq_true rfl) rfl (lk_X9_leastMisfit hD)
def D_X9_findsFirst_86 (rec : Nat → Int → Int → Int → mS → Option mS) (x0 : Nat) (x1 : Int) (x2 : Int) (x3 : Int) (y0 : Int) (y1 : Int) (y2 : Nat) (σ : mS) : Option mS :=
  (sB σ y2 y1 y0).bind fun s1 =>
  rec x0 x1 x2 (mw (x3 + 1)) s1
set_option maxRecDepth 100000 in
set_option maxHeartbeats 4000000 in
theorem lk_X9_findsFirst_86 {G : mG} {rec : Nat → Int → Int → Int → mS → Option mS} {x0 : Nat} {x1 : Int} {x2 : Int} {x3 : Int} {y0 : Int} {y1 : Int} {y2 : Nat} {σ : mS} {R : mS} {r : mX} {τ : mS} (hD : D_X9_findsFirst_86 rec x0 x1 x2 x3 y0 y1 y2 σ = some R) (hrec : ∀ {x0 : Nat} {x1 : Int} {x2 : Int} {x3 : Int} {σ : mS} {R : mS}, rec x0 x1 x2 x3 σ = some R → ∀ {r : mX} {τ : mS}, Ev G M_X9_findsFirst 93 [] [] R r τ → Ev G M_X9_findsFirst 47 [(0, vr x0), (1, vi x1), (2, vi x2), (3, vi x3)] [] σ r τ) (hk : Ev G M_X9_findsFirst 93 [] [] R r τ) : Ev G M_X9_findsFirst 86 [(0, vr x0), (1, vi x1), (2, vi x2), (3, vi x3)] [vi y0, vi y1, vr y2] σ r τ := by
  unfold D_X9_findsFirst_86 at hD
  obtain ⟨s1, g, hD⟩ := bd hD
  refine ew_bast dX9_findsFirst_86 g ?_
  refine ev_iinc dX9_findsFirst_87 3 rfl (Nat.le_of_ble_eq_true rfl) rfl ?_
  refine ev_goto (tgt := 47) dX9_findsFirst_90 (by decide) ?_
  refine Ev.pick [1, 2, 3, 0] rfl ?_
  exact hrec hD hk
def D_X9_findsFirst_85 (rec : Nat → Int → Int → Int → mS → Option mS) (x0 : Nat) (x1 : Int) (x2 : Int) (x3 : Int) (y0 : Int) (y1 : Nat) (σ : mS) : Option mS :=
  D_X9_findsFirst_86 rec x0 x1 x2 x3 0 y0 y1 σ
set_option maxRecDepth 100000 in
set_option maxHeartbeats 4000000 in
theorem lk_X9_findsFirst_85 {G : mG} {rec : Nat → Int → Int → Int → mS → Option mS} {x0 : Nat} {x1 : Int} {x2 : Int} {x3 : Int} {y0 : Int} {y1 : Nat} {σ : mS} {R : mS} {r : mX} {τ : mS} (hD : D_X9_findsFirst_85 rec x0 x1 x2 x3 y0 y1 σ = some R) (hrec : ∀ {x0 : Nat} {x1 : Int} {x2 : Int} {x3 : Int} {σ : mS} {R : mS}, rec x0 x1 x2 x3 σ = some R → ∀ {r : mX} {τ : mS}, Ev G M_X9_findsFirst 93 [] [] R r τ → Ev G M_X9_findsFirst 47 [(0, vr x0), (1, vi x1), (2, vi x2), (3, vi x3)] [] σ r τ) (hk : Ev G M_X9_findsFirst 93 [] [] R r τ) : Ev G M_X9_findsFirst 85 [(0, vr x0), (1, vi x1), (2, vi x2), (3, vi x3)] [vi y0, vr y1] σ r τ := by
  unfold D_X9_findsFirst_85 at hD
  refine ev_iconst dX9_findsFirst_85 (mi_c rfl) ?_
  exact lk_X9_findsFirst_86 hD hrec hk
def D_X9_findsFirst_47 : Nat → Nat → Int → Int → Int → mS → Option mS
  | 0, _, _, _, _, _ => none
  | f + 1, x0, x1, x2, x3, σ =>
    if 1000 ≤ x3 then
      some σ
    else
      (tgO σ x0 8).bind fun _ =>
      (D_X9_misfitOf x0 x1 x3 σ).bind fun r1 =>
      (gR σ x0 8 15).bind fun v2 =>
      (lR σ v2 x1).bind fun v3 =>
      if r1 = ((-1)) then
        D_X9_findsFirst_85 (D_X9_findsFirst_47 f) x0 x1 x2 x3 x3 v3 σ
      else
        if x2 < r1 then
          D_X9_findsFirst_85 (D_X9_findsFirst_47 f) x0 x1 x2 x3 x3 v3 σ
        else
          D_X9_findsFirst_86 (D_X9_findsFirst_47 f) x0 x1 x2 x3 1 x3 v3 σ
set_option maxRecDepth 100000 in
set_option maxHeartbeats 4000000 in
theorem lk_X9_findsFirst_47 {G : mG} (f : Nat) : ∀ {x0 : Nat} {x1 : Int} {x2 : Int} {x3 : Int} {σ : mS} {R : mS}, D_X9_findsFirst_47 f x0 x1 x2 x3 σ = some R → ∀ {r : mX} {τ : mS}, Ev G M_X9_findsFirst 93 [] [] R r τ → Ev G M_X9_findsFirst 47 [(0, vr x0), (1, vi x1), (2, vi x2), (3, vi x3)] [] σ r τ := by
  induction f with
  | zero =>
    intros
    rename_i hD _ _ _
    cases hD
  | succ f ih =>
    intro x0 x1 x2 x3 σ R hD r τ hk
    have hrec := @ih
    rw [D_X9_findsFirst_47] at hD
    refine ev_iload_n dX9_findsFirst_47 3 rfl rfl ?_
    refine ev_sp dX9_findsFirst_48 rfl ?_
    by_cases c : 1000 ≤ x3
    · rw [if_pos c] at hD
      refine ev_icmp_ge_t (tgt := 93) dX9_findsFirst_51 (by decide) c ?_
      cases hD
      refine Ev.pick [] rfl ?_
      exact hk
    · rw [if_neg c] at hD
      refine ev_icmp_ge_f 93 dX9_findsFirst_51 (by decide) c ?_
      refine ev_aload_n dX9_findsFirst_54 0 rfl rfl ?_
      refine ev_iload_n dX9_findsFirst_55 1 rfl rfl ?_
      refine ev_iload_n dX9_findsFirst_56 3 rfl rfl ?_
      obtain ⟨_, g0, hD⟩ := bd hD
      obtain ⟨r1, g, hD⟩ := bd hD
      refine ew_callVv (as := [vi x1, vi x3]) (a := x0) (rest := []) dX9_findsFirst_57 v_X9_misfitOf w_1633 rfl (Nat.le_of_ble_eq_true rfl) rfl rfl g0 (Nat.le_of_ble_eq_true rfl) (Nat.le_of_ble_eq_true rfl) (ct_X9_misfitOf g) ?_
      refine ev_istore dX9_findsFirst_60 (Nat.le_of_ble_eq_true rfl) rfl ?_
      refine ev_aload_n dX9_findsFirst_62 1 rfl rfl ?_
      obtain ⟨v2, g, hD⟩ := bd hD
      refine ew_getR 8 15 dX9_findsFirst_63 rfl (Nat.le_of_ble_eq_true rfl) w_1280 in_X9 rfl g ?_
      refine ev_iload_n dX9_findsFirst_66 2 rfl rfl ?_
      obtain ⟨v3, g, hD⟩ := bd hD
      refine ew_aald dX9_findsFirst_67 g ?_
      refine ev_iload_n dX9_findsFirst_68 4 rfl rfl ?_
      refine ev_iload dX9_findsFirst_69 0 rfl ?_
      refine ev_iconst dX9_findsFirst_71 (mi_c rfl) ?_
      by_cases c : r1 = ((-1))
      · rw [if_pos c] at hD
        refine ev_icmp_eq_t (tgt := 85) dX9_findsFirst_72 (by decide) c ?_
        refine Ev.pick [1, 2, 3, 4] rfl ?_
        exact lk_X9_findsFirst_85 hD hrec hk
      · rw [if_neg c] at hD
        refine ev_icmp_eq_f 85 dX9_findsFirst_72 (by decide) c ?_
        refine ev_iload dX9_findsFirst_75 0 rfl ?_
        refine ev_iload_n dX9_findsFirst_77 3 rfl rfl ?_
        by_cases c : x2 < r1
        · rw [if_pos c] at hD
          refine ev_icmp_gt_t (tgt := 85) dX9_findsFirst_78 (by decide) c ?_
          refine Ev.pick [1, 2, 3, 4] rfl ?_
          exact lk_X9_findsFirst_85 hD hrec hk
        · rw [if_neg c] at hD
          refine ev_icmp_gt_f 85 dX9_findsFirst_78 (by decide) c ?_
          refine ev_iconst dX9_findsFirst_81 (mi_c rfl) ?_
          refine ev_goto (tgt := 86) dX9_findsFirst_82 (by decide) ?_
          refine Ev.pick [1, 2, 3, 4] rfl ?_
          exact lk_X9_findsFirst_86 hD hrec hk
def D_X9_findsFirst_44 (x0 : Nat) (x1 : Int) (y0 : Int) (σ : mS) : Option mS :=
  (D_X9_findsFirst_47 mFU x0 x1 y0 0 σ).bind fun r1 =>
  some r1
set_option maxRecDepth 100000 in
set_option maxHeartbeats 4000000 in
theorem lk_X9_findsFirst_44 {G : mG} {x0 : Nat} {x1 : Int} {y0 : Int} {σ : mS} {R : mS} (hD : D_X9_findsFirst_44 x0 x1 y0 σ = some R) : Ev G M_X9_findsFirst 44 [(0, vr x0), (1, vi x1)] [vi y0] σ (.inl none) R := by
  unfold D_X9_findsFirst_44 at hD
  refine ev_istore_n dX9_findsFirst_44 rfl (Nat.le_of_ble_eq_true rfl) rfl ?_
  refine ev_iconst dX9_findsFirst_45 (mi_c rfl) ?_
  refine ev_istore_n dX9_findsFirst_46 rfl (Nat.le_of_ble_eq_true rfl) rfl ?_
  obtain ⟨r1, g, hD⟩ := bd hD
  refine Ev.pick [2, 3, 1, 0] rfl ?_
  refine lk_X9_findsFirst_47 mFU g ?_
  cases hD
  exact ev_ret none dX9_findsFirst_93 True.intro
def D_X9_findsFirst (x0 : Nat) (x1 : Int) (σ : mS) : Option mS :=
  (tgO σ x0 8).bind fun _ =>
  (D_X9_sampleAt x0 x1 0 σ).bind fun r1 =>
  if r1 ≠ 0 then
    (tgO σ x0 8).bind fun _ =>
    (D_X9_leastMisfit x0 x1 σ).bind fun r2 =>
    (gR σ x0 8 2).bind fun v3 =>
    (lI σ v3 0).bind fun v4 =>
    (tgO σ x0 8).bind fun _ =>
    (D_X9_sampleAt x0 x1 1 σ).bind fun r5 =>
    D_X9_findsFirst_44 x0 x1 (mw (r2 + (mw (v4 * r5)))) σ
  else
    (gR σ x0 8 2).bind fun v6 =>
    (lI σ v6 0).bind fun v7 =>
    (tgO σ x0 8).bind fun _ =>
    (D_X9_sampleAt x0 x1 2 σ).bind fun r8 =>
    D_X9_findsFirst_44 x0 x1 (mw (v7 * r8)) σ
set_option maxRecDepth 100000 in
set_option maxHeartbeats 4000000 in
theorem lk_X9_findsFirst {G : mG} {x0 : Nat} {x1 : Int} {σ : mS} {R : mS} (hD : D_X9_findsFirst x0 x1 σ = some R) : Ev G M_X9_findsFirst 0 [(0, vr x0), (1, vi x1)] [] σ (.inl none) R := by
  unfold D_X9_findsFirst at hD
  refine ev_aload_n dX9_findsFirst_0 0 rfl rfl ?_
  refine ev_iload_n dX9_findsFirst_1 1 rfl rfl ?_
  refine ev_iconst dX9_findsFirst_2 (mi_c rfl) ?_
  obtain ⟨_, g0, hD⟩ := bd hD
  obtain ⟨r1, g, hD⟩ := bd hD
  refine ew_callVv (as := [vi x1, vi 0]) (a := x0) (rest := []) dX9_findsFirst_3 v_X9_sampleAt w_1597 rfl (Nat.le_of_ble_eq_true rfl) rfl rfl g0 (Nat.le_of_ble_eq_true rfl) (Nat.le_of_ble_eq_true rfl) (ct_X9_sampleAt g) ?_
  by_cases c : r1 ≠ 0
  · rw [if_pos c] at hD
    refine ev_if_ne_t (tgt := 25) dX9_findsFirst_6 (by decide) c ?_
    refine ev_aload_n dX9_findsFirst_25 0 rfl rfl ?_
    refine ev_iload_n dX9_findsFirst_26 1 rfl rfl ?_
    obtain ⟨_, g0, hD⟩ := bd hD
    obtain ⟨r2, g, hD⟩ := bd hD
    refine ew_callVv (as := [vi x1]) (a := x0) (rest := []) dX9_findsFirst_27 v_X9_leastMisfit w_1629 rfl (Nat.le_of_ble_eq_true rfl) rfl rfl g0 (Nat.le_of_ble_eq_true rfl) (Nat.le_of_ble_eq_true rfl) (ct_X9_leastMisfit g) ?_
    refine ev_aload_n dX9_findsFirst_30 0 rfl rfl ?_
    obtain ⟨v3, g, hD⟩ := bd hD
    refine ew_getR 8 2 dX9_findsFirst_31 rfl (Nat.le_of_ble_eq_true rfl) w_1267 in_X9 rfl g ?_
    refine ev_iconst dX9_findsFirst_34 (mi_c rfl) ?_
    obtain ⟨v4, g, hD⟩ := bd hD
    refine ew_iald dX9_findsFirst_35 g ?_
    refine ev_aload_n dX9_findsFirst_36 0 rfl rfl ?_
    refine ev_iload_n dX9_findsFirst_37 1 rfl rfl ?_
    refine ev_iconst dX9_findsFirst_38 (mi_c rfl) ?_
    obtain ⟨_, g0, hD⟩ := bd hD
    obtain ⟨r5, g, hD⟩ := bd hD
    refine ew_callVv (as := [vi x1, vi 1]) (a := x0) (rest := [vi v4, vi r2]) dX9_findsFirst_39 v_X9_sampleAt w_1597 rfl (Nat.le_of_ble_eq_true rfl) rfl rfl g0 (Nat.le_of_ble_eq_true rfl) (Nat.le_of_ble_eq_true rfl) (ct_X9_sampleAt g) ?_
    refine ev_imul dX9_findsFirst_42 ?_
    refine ev_iadd dX9_findsFirst_43 ?_
    exact lk_X9_findsFirst_44 hD
  · rw [if_neg c] at hD
    refine ev_if_ne_f 25 dX9_findsFirst_6 (by decide) c ?_
    refine ev_aload_n dX9_findsFirst_9 0 rfl rfl ?_
    obtain ⟨v6, g, hD⟩ := bd hD
    refine ew_getR 8 2 dX9_findsFirst_10 rfl (Nat.le_of_ble_eq_true rfl) w_1267 in_X9 rfl g ?_
    refine ev_iconst dX9_findsFirst_13 (mi_c rfl) ?_
    obtain ⟨v7, g, hD⟩ := bd hD
    refine ew_iald dX9_findsFirst_14 g ?_
    refine ev_aload_n dX9_findsFirst_15 0 rfl rfl ?_
    refine ev_iload_n dX9_findsFirst_16 1 rfl rfl ?_
    refine ev_iconst dX9_findsFirst_17 (mi_c rfl) ?_
    obtain ⟨_, g0, hD⟩ := bd hD
    obtain ⟨r8, g, hD⟩ := bd hD
    refine ew_callVv (as := [vi x1, vi 2]) (a := x0) (rest := [vi v7]) dX9_findsFirst_18 v_X9_sampleAt w_1597 rfl (Nat.le_of_ble_eq_true rfl) rfl rfl g0 (Nat.le_of_ble_eq_true rfl) (Nat.le_of_ble_eq_true rfl) (ct_X9_sampleAt g) ?_
    refine ev_imul dX9_findsFirst_21 ?_
    refine ev_goto (tgt := 44) dX9_findsFirst_22 (by decide) ?_
    exact lk_X9_findsFirst_44 hD
theorem ct_X9_findsFirst {G : mG} {x0 : Nat} {x1 : Int} {σ : mS} {R : mS} (hD : D_X9_findsFirst x0 x1 σ = some R) : Ct G M_X9_findsFirst [vr x0, vi x1] σ (.inl none) R := ct_of rfl (by decide +kernel) rfl (Nat.le_of_ble_eq_true rfl) rfl (lk_X9_findsFirst hD)
def D_X9_laysFirst_48 (rec : Nat → Int → Int → mS → Option mS) (x0 : Nat) (x1 : Int) (x2 : Int) (y0 : Int) (y1 : Int) (y2 : Nat) (σ : mS) : Option mS :=
  (sB σ y2 y1 y0).bind fun s1 =>
  rec x0 x1 (mw (x2 + 1)) s1
set_option maxRecDepth 100000 in
set_option maxHeartbeats 4000000 in
theorem lk_X9_laysFirst_48 {G : mG} {rec : Nat → Int → Int → mS → Option mS} {x0 : Nat} {x1 : Int} {x2 : Int} {y0 : Int} {y1 : Int} {y2 : Nat} {σ : mS} {R : mS} {r : mX} {τ : mS} (hD : D_X9_laysFirst_48 rec x0 x1 x2 y0 y1 y2 σ = some R) (hrec : ∀ {x0 : Nat} {x1 : Int} {x2 : Int} {σ : mS} {R : mS}, rec x0 x1 x2 σ = some R → ∀ {r : mX} {τ : mS}, Ev G M_X9_laysFirst 55 [] [] R r τ → Ev G M_X9_laysFirst 2 [(0, vr x0), (1, vi x1), (2, vi x2)] [] σ r τ) (hk : Ev G M_X9_laysFirst 55 [] [] R r τ) : Ev G M_X9_laysFirst 48 [(0, vr x0), (1, vi x1), (2, vi x2)] [vi y0, vi y1, vr y2] σ r τ := by
  unfold D_X9_laysFirst_48 at hD
  obtain ⟨s1, g, hD⟩ := bd hD
  refine ew_bast dX9_laysFirst_48 g ?_
  refine ev_iinc dX9_laysFirst_49 2 rfl (Nat.le_of_ble_eq_true rfl) rfl ?_
  refine ev_goto (tgt := 2) dX9_laysFirst_52 (by decide) ?_
  refine Ev.pick [1, 2, 0] rfl ?_
  exact hrec hD hk
def D_X9_laysFirst_2 : Nat → Nat → Int → Int → mS → Option mS
  | 0, _, _, _, _ => none
  | f + 1, x0, x1, x2, σ =>
    if 1000 ≤ x2 then
      some σ
    else
      (gR σ x0 8 13).bind fun v1 =>
      (lR σ v1 x1).bind fun v2 =>
      (gI σ x0 8 17).bind fun v3 =>
      if x1 ≠ v3 then
        (gR σ x0 8 15).bind fun v4 =>
        (lR σ v4 x1).bind fun v5 =>
        (lB σ v5 x2).bind fun v6 =>
        D_X9_laysFirst_48 (D_X9_laysFirst_2 f) x0 x1 x2 v6 x2 v2 σ
      else
        (gI σ x0 8 18).bind fun v7 =>
        if x2 ≠ v7 then
          D_X9_laysFirst_48 (D_X9_laysFirst_2 f) x0 x1 x2 0 x2 v2 σ
        else
          D_X9_laysFirst_48 (D_X9_laysFirst_2 f) x0 x1 x2 1 x2 v2 σ
set_option maxRecDepth 100000 in
set_option maxHeartbeats 4000000 in
theorem lk_X9_laysFirst_2 {G : mG} (f : Nat) : ∀ {x0 : Nat} {x1 : Int} {x2 : Int} {σ : mS} {R : mS}, D_X9_laysFirst_2 f x0 x1 x2 σ = some R → ∀ {r : mX} {τ : mS}, Ev G M_X9_laysFirst 55 [] [] R r τ → Ev G M_X9_laysFirst 2 [(0, vr x0), (1, vi x1), (2, vi x2)] [] σ r τ := by
  induction f with
  | zero =>
    intros
    rename_i hD _ _ _
    cases hD
  | succ f ih =>
    intro x0 x1 x2 σ R hD r τ hk
    have hrec := @ih
    rw [D_X9_laysFirst_2] at hD
    refine ev_iload_n dX9_laysFirst_2 2 rfl rfl ?_
    refine ev_sp dX9_laysFirst_3 rfl ?_
    by_cases c : 1000 ≤ x2
    · rw [if_pos c] at hD
      refine ev_icmp_ge_t (tgt := 55) dX9_laysFirst_6 (by decide) c ?_
      cases hD
      refine Ev.pick [] rfl ?_
      exact hk
    · rw [if_neg c] at hD
      refine ev_icmp_ge_f 55 dX9_laysFirst_6 (by decide) c ?_
      refine ev_aload_n dX9_laysFirst_9 0 rfl rfl ?_
      obtain ⟨v1, g, hD⟩ := bd hD
      refine ew_getR 8 13 dX9_laysFirst_10 rfl (Nat.le_of_ble_eq_true rfl) w_1278 in_X9 rfl g ?_
      refine ev_iload_n dX9_laysFirst_13 1 rfl rfl ?_
      obtain ⟨v2, g, hD⟩ := bd hD
      refine ew_aald dX9_laysFirst_14 g ?_
      refine ev_iload_n dX9_laysFirst_15 2 rfl rfl ?_
      refine ev_iload_n dX9_laysFirst_16 1 rfl rfl ?_
      refine ev_aload_n dX9_laysFirst_17 0 rfl rfl ?_
      obtain ⟨v3, g, hD⟩ := bd hD
      refine ew_getI 8 17 dX9_laysFirst_18 rfl (Nat.le_of_ble_eq_true rfl) w_1282 in_X9 rfl g ?_
      by_cases c : x1 ≠ v3
      · rw [if_pos c] at hD
        refine ev_icmp_ne_t (tgt := 40) dX9_laysFirst_21 (by decide) c ?_
        refine ev_aload_n dX9_laysFirst_40 0 rfl rfl ?_
        obtain ⟨v4, g, hD⟩ := bd hD
        refine ew_getR 8 15 dX9_laysFirst_41 rfl (Nat.le_of_ble_eq_true rfl) w_1280 in_X9 rfl g ?_
        refine ev_iload_n dX9_laysFirst_44 1 rfl rfl ?_
        obtain ⟨v5, g, hD⟩ := bd hD
        refine ew_aald dX9_laysFirst_45 g ?_
        refine ev_iload_n dX9_laysFirst_46 2 rfl rfl ?_
        obtain ⟨v6, g, hD⟩ := bd hD
        refine ew_bald dX9_laysFirst_47 g ?_
        exact lk_X9_laysFirst_48 hD hrec hk
      · rw [if_neg c] at hD
        refine ev_icmp_ne_f 40 dX9_laysFirst_21 (by decide) c ?_
        refine ev_iload_n dX9_laysFirst_24 2 rfl rfl ?_
        refine ev_aload_n dX9_laysFirst_25 0 rfl rfl ?_
        obtain ⟨v7, g, hD⟩ := bd hD
        refine ew_getI 8 18 dX9_laysFirst_26 rfl (Nat.le_of_ble_eq_true rfl) w_1283 in_X9 rfl g ?_
        by_cases c : x2 ≠ v7
        · rw [if_pos c] at hD
          refine ev_icmp_ne_t (tgt := 36) dX9_laysFirst_29 (by decide) c ?_
          refine ev_iconst dX9_laysFirst_36 (mi_c rfl) ?_
          refine ev_goto (tgt := 48) dX9_laysFirst_37 (by decide) ?_
          exact lk_X9_laysFirst_48 hD hrec hk
        · rw [if_neg c] at hD
          refine ev_icmp_ne_f 36 dX9_laysFirst_29 (by decide) c ?_
          refine ev_iconst dX9_laysFirst_32 (mi_c rfl) ?_
          refine ev_goto (tgt := 48) dX9_laysFirst_33 (by decide) ?_
          exact lk_X9_laysFirst_48 hD hrec hk
def D_X9_laysFirst (x0 : Nat) (x1 : Int) (σ : mS) : Option mS :=
  (D_X9_laysFirst_2 mFU x0 x1 0 σ).bind fun r1 =>
  some r1
set_option maxRecDepth 100000 in
set_option maxHeartbeats 4000000 in
theorem lk_X9_laysFirst {G : mG} {x0 : Nat} {x1 : Int} {σ : mS} {R : mS} (hD : D_X9_laysFirst x0 x1 σ = some R) : Ev G M_X9_laysFirst 0 [(0, vr x0), (1, vi x1)] [] σ (.inl none) R := by
  unfold D_X9_laysFirst at hD
  refine ev_iconst dX9_laysFirst_0 (mi_c rfl) ?_
  refine ev_istore_n dX9_laysFirst_1 rfl (Nat.le_of_ble_eq_true rfl) rfl ?_
  obtain ⟨r1, g, hD⟩ := bd hD
  refine Ev.pick [1, 2, 0] rfl ?_
  refine lk_X9_laysFirst_2 mFU g ?_
  cases hD
  exact ev_ret none dX9_laysFirst_55 True.intro
theorem ct_X9_laysFirst {G : mG} {x0 : Nat} {x1 : Int} {σ : mS} {R : mS} (hD : D_X9_laysFirst x0 x1 σ = some R) : Ct G M_X9_laysFirst [vr x0, vi x1] σ (.inl none) R := ct_of rfl (by decide +kernel) rfl (Nat.le_of_ble_eq_true rfl) rfl (lk_X9_laysFirst hD)
def D_X9_size_23 (rec : Nat → Int → Int → mS → Option Int) (x1 : Nat) (x3 : Int) (y0 : Int) (y1 : Int) (σ : mS) : Option Int :=
  rec x1 (mw (y1 + y0)) (mw (x3 + 1)) σ
set_option maxRecDepth 100000 in
set_option maxHeartbeats 4000000 in
theorem lk_X9_size_23 {G : mG} {rec : Nat → Int → Int → mS → Option Int} {x1 : Nat} {x3 : Int} {y0 : Int} {y1 : Int} {σ : mS} {R : Int} {r : mX} {τ : mS} (hD : D_X9_size_23 rec x1 x3 y0 y1 σ = some R) (hrec : ∀ {x1 : Nat} {x2 : Int} {x3 : Int} {σ : mS} {R : Int}, rec x1 x2 x3 σ = some R → ∀ {r : mX} {τ : mS}, Ev G M_X9_size 31 [(2, vi (R))] [] σ r τ → Ev G M_X9_size 4 [(1, vr x1), (2, vi x2), (3, vi x3)] [] σ r τ) (hk : Ev G M_X9_size 31 [(2, vi (R))] [] σ r τ) : Ev G M_X9_size 23 [(1, vr x1), (3, vi x3)] [vi y0, vi y1] σ r τ := by
  unfold D_X9_size_23 at hD
  refine ev_iadd dX9_size_23 ?_
  refine ev_istore_n dX9_size_24 rfl (Nat.le_of_ble_eq_true rfl) rfl ?_
  refine ev_iinc dX9_size_25 2 rfl (Nat.le_of_ble_eq_true rfl) rfl ?_
  refine ev_goto (tgt := 4) dX9_size_28 (by decide) ?_
  refine Ev.pick [2, 1, 0] rfl ?_
  exact hrec hD hk
def D_X9_size_4 : Nat → Nat → Int → Int → mS → Option Int
  | 0, _, _, _, _ => none
  | f + 1, x1, x2, x3, σ =>
    if 1000 ≤ x3 then
      some x2
    else
      (lB σ x1 x3).bind fun v1 =>
      if v1 = 0 then
        D_X9_size_23 (D_X9_size_4 f) x1 x3 0 x2 σ
      else
        D_X9_size_23 (D_X9_size_4 f) x1 x3 1 x2 σ
set_option maxRecDepth 100000 in
set_option maxHeartbeats 4000000 in
theorem lk_X9_size_4 {G : mG} (f : Nat) : ∀ {x1 : Nat} {x2 : Int} {x3 : Int} {σ : mS} {R : Int}, D_X9_size_4 f x1 x2 x3 σ = some R → ∀ {r : mX} {τ : mS}, Ev G M_X9_size 31 [(2, vi (R))] [] σ r τ → Ev G M_X9_size 4 [(1, vr x1), (2, vi x2), (3, vi x3)] [] σ r τ := by
  induction f with
  | zero =>
    intros
    rename_i hD _ _ _
    cases hD
  | succ f ih =>
    intro x1 x2 x3 σ R hD r τ hk
    have hrec := @ih
    rw [D_X9_size_4] at hD
    refine ev_iload_n dX9_size_4 2 rfl rfl ?_
    refine ev_sp dX9_size_5 rfl ?_
    by_cases c : 1000 ≤ x3
    · rw [if_pos c] at hD
      refine ev_icmp_ge_t (tgt := 31) dX9_size_8 (by decide) c ?_
      cases hD
      refine Ev.pick [1] rfl ?_
      exact hk
    · rw [if_neg c] at hD
      refine ev_icmp_ge_f 31 dX9_size_8 (by decide) c ?_
      refine ev_iload_n dX9_size_11 1 rfl rfl ?_
      refine ev_aload_n dX9_size_12 0 rfl rfl ?_
      refine ev_iload_n dX9_size_13 2 rfl rfl ?_
      obtain ⟨v1, g, hD⟩ := bd hD
      refine ew_bald dX9_size_14 g ?_
      by_cases c : v1 = 0
      · rw [if_pos c] at hD
        refine ev_if_eq_t (tgt := 22) dX9_size_15 (by decide) c ?_
        refine ev_iconst dX9_size_22 (mi_c rfl) ?_
        refine Ev.pick [0, 2] rfl ?_
        exact lk_X9_size_23 hD hrec hk
      · rw [if_neg c] at hD
        refine ev_if_eq_f 22 dX9_size_15 (by decide) c ?_
        refine ev_iconst dX9_size_18 (mi_c rfl) ?_
        refine ev_goto (tgt := 23) dX9_size_19 (by decide) ?_
        refine Ev.pick [0, 2] rfl ?_
        exact lk_X9_size_23 hD hrec hk
def D_X9_size (x0 : Nat) (x1 : Nat) (σ : mS) : Option Int :=
  (D_X9_size_4 mFU x1 0 0 σ).bind fun r1 =>
  some r1
set_option maxRecDepth 100000 in
set_option maxHeartbeats 4000000 in
theorem lk_X9_size {G : mG} {x0 : Nat} {x1 : Nat} {σ : mS} {R : Int} (hD : D_X9_size x0 x1 σ = some R) : Ev G M_X9_size 0 [(0, vr x0), (1, vr x1)] [] σ (.inl (some (vi R))) σ := by
  unfold D_X9_size at hD
  refine ev_iconst dX9_size_0 (mi_c rfl) ?_
  refine ev_istore_n dX9_size_1 rfl (Nat.le_of_ble_eq_true rfl) rfl ?_
  refine ev_iconst dX9_size_2 (mi_c rfl) ?_
  refine ev_istore_n dX9_size_3 rfl (Nat.le_of_ble_eq_true rfl) rfl ?_
  obtain ⟨r1, g, hD⟩ := bd hD
  refine Ev.pick [3, 1, 0] rfl ?_
  refine lk_X9_size_4 mFU g ?_
  refine ev_iload_n dX9_size_31 0 rfl rfl ?_
  cases hD
  exact ev_ret (some (vi _)) dX9_size_32 True.intro
theorem ct_X9_size {G : mG} {x0 : Nat} {x1 : Nat} {σ : mS} {R : Int} (hD : D_X9_size x0 x1 σ = some R) : Ct G M_X9_size [vr x0, vr x1] σ (.inl (some (vi R))) σ := ct_of rfl (by decide +kernel) rfl (Nat.le_of_ble_eq_true rfl) rfl (lk_X9_size hD)
def D_X9_meets_20 (σ : mS) : Option mS :=
  some σ
set_option maxRecDepth 100000 in
set_option maxHeartbeats 4000000 in
theorem lk_X9_meets_20 {G : mG} {σ : mS} {R : mS} (hD : D_X9_meets_20  σ = some R) : Ev G M_X9_meets 20 [] [] σ (.inl none) R := by
  unfold D_X9_meets_20 at hD
  cases hD
  exact ev_ret none dX9_meets_20 True.intro
def D_X9_meets (x0 : Nat) (x1 : Int) (x2 : Int) (σ : mS) : Option mS :=
  (gI σ x0 8 24).bind fun v1 =>
  if v1 ≠ 0 then
    D_X9_meets_20  σ
  else
    (gR σ x0 8 14).bind fun v2 =>
    (lR σ v2 x2).bind fun v3 =>
    (tgO σ x0 8).bind fun _ =>
    (D_X9_size x0 v3 σ).bind fun r4 =>
    if r4 ≤ 0 then
      (pB σ x0 8 24 1).bind fun s5 =>
      (pI s5 x0 8 21 x1).bind fun s6 =>
      (pI s6 x0 8 22 x2).bind fun s7 =>
      some s7
    else
      D_X9_meets_20  σ
set_option maxRecDepth 100000 in
set_option maxHeartbeats 4000000 in
theorem lk_X9_meets {G : mG} {x0 : Nat} {x1 : Int} {x2 : Int} {σ : mS} {R : mS} (hD : D_X9_meets x0 x1 x2 σ = some R) : Ev G M_X9_meets 0 [(0, vr x0), (1, vi x1), (2, vi x2)] [] σ (.inl none) R := by
  unfold D_X9_meets at hD
  refine ev_aload_n dX9_meets_0 0 rfl rfl ?_
  obtain ⟨v1, g, hD⟩ := bd hD
  refine ew_getI 8 24 dX9_meets_1 rfl (Nat.le_of_ble_eq_true rfl) w_1289 in_X9 rfl g ?_
  by_cases c : v1 ≠ 0
  · rw [if_pos c] at hD
    refine ev_if_ne_t (tgt := 20) dX9_meets_4 (by decide) c ?_
    refine Ev.pick [] rfl ?_
    exact lk_X9_meets_20 hD
  · rw [if_neg c] at hD
    refine ev_if_ne_f 20 dX9_meets_4 (by decide) c ?_
    refine ev_aload_n dX9_meets_7 0 rfl rfl ?_
    refine ev_aload_n dX9_meets_8 0 rfl rfl ?_
    obtain ⟨v2, g, hD⟩ := bd hD
    refine ew_getR 8 14 dX9_meets_9 rfl (Nat.le_of_ble_eq_true rfl) w_1279 in_X9 rfl g ?_
    refine ev_iload_n dX9_meets_12 2 rfl rfl ?_
    obtain ⟨v3, g, hD⟩ := bd hD
    refine ew_aald dX9_meets_13 g ?_
    obtain ⟨_, g0, hD⟩ := bd hD
    obtain ⟨r4, g, hD⟩ := bd hD
    refine ew_callVv (as := [vr v3]) (a := x0) (rest := []) dX9_meets_14 v_X9_size w_1650 rfl (Nat.le_of_ble_eq_true rfl) rfl rfl g0 (Nat.le_of_ble_eq_true rfl) (Nat.le_of_ble_eq_true rfl) (ct_X9_size g) ?_
    by_cases c : r4 ≤ 0
    · rw [if_pos c] at hD
      refine ev_if_le_t (tgt := 21) dX9_meets_17 (by decide) c ?_
      refine ev_aload_n dX9_meets_21 0 rfl rfl ?_
      refine ev_iconst dX9_meets_22 (mi_c rfl) ?_
      obtain ⟨s5, g, hD⟩ := bd hD
      refine ew_putB 8 24 dX9_meets_23 rfl (Nat.le_of_ble_eq_true rfl) w_1289 in_X9 tyX9_ok nmX9 (Or.inl rfl) rfl g ?_
      refine ev_aload_n dX9_meets_26 0 rfl rfl ?_
      refine ev_iload_n dX9_meets_27 1 rfl rfl ?_
      obtain ⟨s6, g, hD⟩ := bd hD
      refine ew_putI 8 21 dX9_meets_28 rfl (Nat.le_of_ble_eq_true rfl) w_1286 in_X9 tyX9_ok nmX9 (Or.inl rfl) rfl g ?_
      refine ev_aload_n dX9_meets_31 0 rfl rfl ?_
      refine ev_iload_n dX9_meets_32 2 rfl rfl ?_
      obtain ⟨s7, g, hD⟩ := bd hD
      refine ew_putI 8 22 dX9_meets_33 rfl (Nat.le_of_ble_eq_true rfl) w_1287 in_X9 tyX9_ok nmX9 (Or.inl rfl) rfl g ?_
      cases hD
      exact ev_ret none dX9_meets_36 True.intro
    · rw [if_neg c] at hD
      refine ev_if_le_f 21 dX9_meets_17 (by decide) c ?_
      refine Ev.pick [] rfl ?_
      exact lk_X9_meets_20 hD
theorem ct_X9_meets {G : mG} {x0 : Nat} {x1 : Int} {x2 : Int} {σ : mS} {R : mS} (hD : D_X9_meets x0 x1 x2 σ = some R) : Ct G M_X9_meets [vr x0, vi x1, vi x2] σ (.inl none) R := ct_of rfl (by decide +kernel) rfl (Nat.le_of_ble_eq_true rfl) rfl (lk_X9_meets hD)
def D_X9_takes (x0 : Nat) (x1 : Int) (x2 : Int) (x3 : Int) (σ : mS) : Option mS :=
  (gR σ x0 8 14).bind fun v1 =>
  (lR σ v1 x2).bind fun v2 =>
  (sB σ v2 x3 0).bind fun s3 =>
  (gR s3 x0 8 25).bind fun v4 =>
  (lI s3 v4 x1).bind fun v5 =>
  (sI s3 v4 x1 (mw (v5 + 1))).bind fun s6 =>
  (gI s6 x0 8 23).bind fun v7 =>
  (pI s6 x0 8 23 (mw (v7 + 1))).bind fun s8 =>
  some s8
set_option maxRecDepth 100000 in
set_option maxHeartbeats 4000000 in
theorem lk_X9_takes {G : mG} {x0 : Nat} {x1 : Int} {x2 : Int} {x3 : Int} {σ : mS} {R : mS} (hD : D_X9_takes x0 x1 x2 x3 σ = some R) : Ev G M_X9_takes 0 [(0, vr x0), (1, vi x1), (2, vi x2), (3, vi x3)] [] σ (.inl none) R := by
  unfold D_X9_takes at hD
  refine ev_aload_n dX9_takes_0 0 rfl rfl ?_
  obtain ⟨v1, g, hD⟩ := bd hD
  refine ew_getR 8 14 dX9_takes_1 rfl (Nat.le_of_ble_eq_true rfl) w_1279 in_X9 rfl g ?_
  refine ev_iload_n dX9_takes_4 2 rfl rfl ?_
  obtain ⟨v2, g, hD⟩ := bd hD
  refine ew_aald dX9_takes_5 g ?_
  refine ev_iload_n dX9_takes_6 3 rfl rfl ?_
  refine ev_iconst dX9_takes_7 (mi_c rfl) ?_
  obtain ⟨s3, g, hD⟩ := bd hD
  refine ew_bast dX9_takes_8 g ?_
  refine ev_aload_n dX9_takes_9 0 rfl rfl ?_
  obtain ⟨v4, g, hD⟩ := bd hD
  refine ew_getR 8 25 dX9_takes_10 rfl (Nat.le_of_ble_eq_true rfl) w_1290 in_X9 rfl g ?_
  refine ev_iload_n dX9_takes_13 1 rfl rfl ?_
  refine ev_dup2 dX9_takes_14 rfl rfl ?_
  obtain ⟨v5, g, hD⟩ := bd hD
  refine ew_iald dX9_takes_15 g ?_
  refine ev_iconst dX9_takes_16 (mi_c rfl) ?_
  refine ev_iadd dX9_takes_17 ?_
  obtain ⟨s6, g, hD⟩ := bd hD
  refine ew_iast dX9_takes_18 g ?_
  refine ev_aload_n dX9_takes_19 0 rfl rfl ?_
  refine ev_dup dX9_takes_20 rfl ?_
  obtain ⟨v7, g, hD⟩ := bd hD
  refine ew_getI 8 23 dX9_takes_21 rfl (Nat.le_of_ble_eq_true rfl) w_1288 in_X9 rfl g ?_
  refine ev_iconst dX9_takes_24 (mi_c rfl) ?_
  refine ev_iadd dX9_takes_25 ?_
  obtain ⟨s8, g, hD⟩ := bd hD
  refine ew_putI 8 23 dX9_takes_26 rfl (Nat.le_of_ble_eq_true rfl) w_1288 in_X9 tyX9_ok nmX9 (Or.inl rfl) rfl g ?_
  cases hD
  exact ev_ret none dX9_takes_29 True.intro
theorem ct_X9_takes {G : mG} {x0 : Nat} {x1 : Int} {x2 : Int} {x3 : Int} {σ : mS} {R : mS} (hD : D_X9_takes x0 x1 x2 x3 σ = some R) : Ct G M_X9_takes [vr x0, vi x1, vi x2, vi x3] σ (.inl none) R := ct_of rfl (by decide +kernel) rfl (Nat.le_of_ble_eq_true rfl) rfl (lk_X9_takes hD)
def D_X9_narrows_50 (rec : Nat → Int → Int → mS → Option mS) (x0 : Nat) (x3 : Int) (x6 : Int) (y0 : Int) (y1 : Int) (y2 : Int) (y3 : Nat) (σ : mS) : Option mS :=
  (sI σ y3 y2 (mw (y1 + y0))).bind fun s1 =>
  rec x0 x3 (mw (x6 + 1)) s1
set_option maxRecDepth 100000 in
set_option maxHeartbeats 4000000 in
theorem lk_X9_narrows_50 {G : mG} {rec : Nat → Int → Int → mS → Option mS} {x0 : Nat} {x1 : Int} {x2 : Int} {x3 : Int} {x4 : Int} {x5 : Int} {x6 : Int} {y0 : Int} {y1 : Int} {y2 : Int} {y3 : Nat} {σ : mS} {R : mS} {r : mX} {τ : mS} (hD : D_X9_narrows_50 rec x0 x3 x6 y0 y1 y2 y3 σ = some R) (hrec : ∀ {x0 : Nat} {x3 : Int} {x6 : Int} {σ : mS} {R : mS}, rec x0 x3 x6 σ = some R → ∀ {r : mX} {τ : mS}, Ev G M_X9_narrows 58 [(0, vr x0), (1, vi x1), (2, vi x2), (4, vi x4), (5, vi x5)] [] R r τ → Ev G M_X9_narrows 10 [(0, vr x0), (1, vi x1), (2, vi x2), (3, vi x3), (4, vi x4), (5, vi x5), (6, vi x6)] [] σ r τ) (hk : Ev G M_X9_narrows 58 [(0, vr x0), (1, vi x1), (2, vi x2), (4, vi x4), (5, vi x5)] [] R r τ) : Ev G M_X9_narrows 50 [(0, vr x0), (1, vi x1), (2, vi x2), (3, vi x3), (4, vi x4), (5, vi x5), (6, vi x6)] [vi y0, vi y1, vi y2, vr y3] σ r τ := by
  unfold D_X9_narrows_50 at hD
  refine ev_iadd dX9_narrows_50 ?_
  obtain ⟨s1, g, hD⟩ := bd hD
  refine ew_iast dX9_narrows_51 g ?_
  refine ev_iinc dX9_narrows_52 6 rfl (Nat.le_of_ble_eq_true rfl) rfl ?_
  refine ev_goto (tgt := 10) dX9_narrows_55 (by decide) ?_
  refine Ev.pick [1, 2, 3, 4, 5, 6, 0] rfl ?_
  exact hrec hD hk
def D_X9_narrows_10 : Nat → Nat → Int → Int → mS → Option mS
  | 0, _, _, _, _ => none
  | f + 1, x0, x3, x6, σ =>
    if 1000 ≤ x6 then
      some σ
    else
      (gR σ x0 8 26).bind fun v1 =>
      (gR σ x0 8 26).bind fun v2 =>
      (lI σ v2 x6).bind fun v3 =>
      (gR σ x0 8 14).bind fun v4 =>
      (lR σ v4 x3).bind fun v5 =>
      (lB σ v5 x6).bind fun v6 =>
      if v6 = 0 then
        D_X9_narrows_50 (D_X9_narrows_10 f) x0 x3 x6 0 v3 (mw (x6 + 1)) v1 σ
      else
        D_X9_narrows_50 (D_X9_narrows_10 f) x0 x3 x6 1 v3 (mw (x6 + 1)) v1 σ
set_option maxRecDepth 100000 in
set_option maxHeartbeats 4000000 in
theorem lk_X9_narrows_10 {G : mG} {x1 : Int} {x2 : Int} {x4 : Int} {x5 : Int} (f : Nat) : ∀ {x0 : Nat} {x3 : Int} {x6 : Int} {σ : mS} {R : mS}, D_X9_narrows_10 f x0 x3 x6 σ = some R → ∀ {r : mX} {τ : mS}, Ev G M_X9_narrows 58 [(0, vr x0), (1, vi x1), (2, vi x2), (4, vi x4), (5, vi x5)] [] R r τ → Ev G M_X9_narrows 10 [(0, vr x0), (1, vi x1), (2, vi x2), (3, vi x3), (4, vi x4), (5, vi x5), (6, vi x6)] [] σ r τ := by
  induction f with
  | zero =>
    intros
    rename_i hD _ _ _
    cases hD
  | succ f ih =>
    intro x0 x3 x6 σ R hD r τ hk
    have hrec := @ih
    rw [D_X9_narrows_10] at hD
    refine ev_iload dX9_narrows_10 6 rfl ?_
    refine ev_sp dX9_narrows_12 rfl ?_
    by_cases c : 1000 ≤ x6
    · rw [if_pos c] at hD
      refine ev_icmp_ge_t (tgt := 58) dX9_narrows_15 (by decide) c ?_
      cases hD
      refine Ev.pick [0, 1, 2, 4, 5] rfl ?_
      exact hk
    · rw [if_neg c] at hD
      refine ev_icmp_ge_f 58 dX9_narrows_15 (by decide) c ?_
      refine ev_aload_n dX9_narrows_18 0 rfl rfl ?_
      obtain ⟨v1, g, hD⟩ := bd hD
      refine ew_getR 8 26 dX9_narrows_19 rfl (Nat.le_of_ble_eq_true rfl) w_1291 in_X9 rfl g ?_
      refine ev_iload dX9_narrows_22 6 rfl ?_
      refine ev_iconst dX9_narrows_24 (mi_c rfl) ?_
      refine ev_iadd dX9_narrows_25 ?_
      refine ev_aload_n dX9_narrows_26 0 rfl rfl ?_
      obtain ⟨v2, g, hD⟩ := bd hD
      refine ew_getR 8 26 dX9_narrows_27 rfl (Nat.le_of_ble_eq_true rfl) w_1291 in_X9 rfl g ?_
      refine ev_iload dX9_narrows_30 6 rfl ?_
      obtain ⟨v3, g, hD⟩ := bd hD
      refine ew_iald dX9_narrows_32 g ?_
      refine ev_aload_n dX9_narrows_33 0 rfl rfl ?_
      obtain ⟨v4, g, hD⟩ := bd hD
      refine ew_getR 8 14 dX9_narrows_34 rfl (Nat.le_of_ble_eq_true rfl) w_1279 in_X9 rfl g ?_
      refine ev_iload_n dX9_narrows_37 3 rfl rfl ?_
      obtain ⟨v5, g, hD⟩ := bd hD
      refine ew_aald dX9_narrows_38 g ?_
      refine ev_iload dX9_narrows_39 6 rfl ?_
      obtain ⟨v6, g, hD⟩ := bd hD
      refine ew_bald dX9_narrows_41 g ?_
      by_cases c : v6 = 0
      · rw [if_pos c] at hD
        refine ev_if_eq_t (tgt := 49) dX9_narrows_42 (by decide) c ?_
        refine ev_iconst dX9_narrows_49 (mi_c rfl) ?_
        exact lk_X9_narrows_50 hD hrec hk
      · rw [if_neg c] at hD
        refine ev_if_eq_f 49 dX9_narrows_42 (by decide) c ?_
        refine ev_iconst dX9_narrows_45 (mi_c rfl) ?_
        refine ev_goto (tgt := 50) dX9_narrows_46 (by decide) ?_
        exact lk_X9_narrows_50 hD hrec hk
def D_X9_narrows_157 (rec : Nat → Int → Int → Int → Int → Int → mS → Option mS) (x0 : Nat) (x1 : Int) (x2 : Int) (x4 : Int) (x5 : Int) (x7 : Int) (σ : mS) : Option mS :=
  rec x0 x1 x2 x4 x5 (mw (x7 + 1)) σ
set_option maxRecDepth 100000 in
set_option maxHeartbeats 4000000 in
theorem lk_X9_narrows_157 {G : mG} {rec : Nat → Int → Int → Int → Int → Int → mS → Option mS} {x0 : Nat} {x1 : Int} {x2 : Int} {x4 : Int} {x5 : Int} {x6 : Int} {x7 : Int} {σ : mS} {R : mS} {r : mX} {τ : mS} (hD : D_X9_narrows_157 rec x0 x1 x2 x4 x5 x7 σ = some R) (hrec : ∀ {x0 : Nat} {x1 : Int} {x2 : Int} {x4 : Int} {x5 : Int} {x7 : Int} {σ : mS} {R : mS}, rec x0 x1 x2 x4 x5 x7 σ = some R → ∀ {r : mX} {τ : mS}, Ev G M_X9_narrows 163 [(0, vr x0), (1, vi x1), (2, vi x2), (6, vi x6)] [] R r τ → Ev G M_X9_narrows 67 [(0, vr x0), (1, vi x1), (2, vi x2), (4, vi x4), (5, vi x5), (6, vi x6), (7, vi x7)] [] σ r τ) (hk : Ev G M_X9_narrows 163 [(0, vr x0), (1, vi x1), (2, vi x2), (6, vi x6)] [] R r τ) : Ev G M_X9_narrows 157 [(0, vr x0), (1, vi x1), (2, vi x2), (4, vi x4), (5, vi x5), (6, vi x6), (7, vi x7)] [] σ r τ := by
  unfold D_X9_narrows_157 at hD
  refine ev_iinc dX9_narrows_157 6 rfl (Nat.le_of_ble_eq_true rfl) rfl ?_
  refine ev_goto (tgt := 67) dX9_narrows_160 (by decide) ?_
  refine Ev.pick [1, 2, 3, 4, 5, 6, 0] rfl ?_
  exact hrec hD hk
def D_X9_narrows_130 (rec : Nat → Int → Int → Int → Int → Int → mS → Option mS) (x0 : Nat) (x1 : Int) (x2 : Int) (x4 : Int) (x5 : Int) (x7 : Int) (y0 : Int) (σ : mS) : Option mS :=
  (gR σ x0 8 14).bind fun v1 =>
  (lR σ v1 x2).bind fun v2 =>
  (lB σ v2 x7).bind fun v3 =>
  if v3 = 0 then
    D_X9_narrows_157 rec x0 x1 x2 x4 x5 x7 σ
  else
    if y0 ≠ 0 then
      D_X9_narrows_157 rec x0 x1 x2 x4 x5 x7 σ
    else
      (tgO σ x0 8).bind fun _ =>
      (D_X9_takes x0 x1 x2 x7 σ).bind fun r4 =>
      D_X9_narrows_157 rec x0 x1 x2 x4 x5 x7 r4
set_option maxRecDepth 100000 in
set_option maxHeartbeats 4000000 in
theorem lk_X9_narrows_130 {G : mG} {rec : Nat → Int → Int → Int → Int → Int → mS → Option mS} {x0 : Nat} {x1 : Int} {x2 : Int} {x4 : Int} {x5 : Int} {x6 : Int} {x7 : Int} {y0 : Int} {σ : mS} {R : mS} {r : mX} {τ : mS} (hD : D_X9_narrows_130 rec x0 x1 x2 x4 x5 x7 y0 σ = some R) (hrec : ∀ {x0 : Nat} {x1 : Int} {x2 : Int} {x4 : Int} {x5 : Int} {x7 : Int} {σ : mS} {R : mS}, rec x0 x1 x2 x4 x5 x7 σ = some R → ∀ {r : mX} {τ : mS}, Ev G M_X9_narrows 163 [(0, vr x0), (1, vi x1), (2, vi x2), (6, vi x6)] [] R r τ → Ev G M_X9_narrows 67 [(0, vr x0), (1, vi x1), (2, vi x2), (4, vi x4), (5, vi x5), (6, vi x6), (7, vi x7)] [] σ r τ) (hk : Ev G M_X9_narrows 163 [(0, vr x0), (1, vi x1), (2, vi x2), (6, vi x6)] [] R r τ) : Ev G M_X9_narrows 130 [(0, vr x0), (1, vi x1), (2, vi x2), (4, vi x4), (5, vi x5), (6, vi x6), (7, vi x7)] [vi y0] σ r τ := by
  unfold D_X9_narrows_130 at hD
  refine ev_istore dX9_narrows_130 (Nat.le_of_ble_eq_true rfl) rfl ?_
  refine ev_aload_n dX9_narrows_132 1 rfl rfl ?_
  obtain ⟨v1, g, hD⟩ := bd hD
  refine ew_getR 8 14 dX9_narrows_133 rfl (Nat.le_of_ble_eq_true rfl) w_1279 in_X9 rfl g ?_
  refine ev_iload_n dX9_narrows_136 3 rfl rfl ?_
  obtain ⟨v2, g, hD⟩ := bd hD
  refine ew_aald dX9_narrows_137 g ?_
  refine ev_iload dX9_narrows_138 7 rfl ?_
  obtain ⟨v3, g, hD⟩ := bd hD
  refine ew_bald dX9_narrows_140 g ?_
  by_cases c : v3 = 0
  · rw [if_pos c] at hD
    refine ev_if_eq_t (tgt := 157) dX9_narrows_141 (by decide) c ?_
    refine Ev.pick [1, 2, 3, 4, 5, 6, 7] rfl ?_
    exact lk_X9_narrows_157 hD hrec hk
  · rw [if_neg c] at hD
    refine ev_if_eq_f 157 dX9_narrows_141 (by decide) c ?_
    refine ev_iload dX9_narrows_144 0 rfl ?_
    by_cases c : y0 ≠ 0
    · rw [if_pos c] at hD
      refine ev_if_ne_t (tgt := 157) dX9_narrows_146 (by decide) c ?_
      refine Ev.pick [1, 2, 3, 4, 5, 6, 7] rfl ?_
      exact lk_X9_narrows_157 hD hrec hk
    · rw [if_neg c] at hD
      refine ev_if_ne_f 157 dX9_narrows_146 (by decide) c ?_
      refine ev_aload_n dX9_narrows_149 1 rfl rfl ?_
      refine ev_iload_n dX9_narrows_150 2 rfl rfl ?_
      refine ev_iload_n dX9_narrows_151 3 rfl rfl ?_
      refine ev_iload dX9_narrows_152 7 rfl ?_
      obtain ⟨_, g0, hD⟩ := bd hD
      obtain ⟨r4, g, hD⟩ := bd hD
      refine ew_callV0 (as := [vi x1, vi x2, vi x7]) (a := x0) (rest := []) dX9_narrows_154 v_X9_takes w_1671 rfl (Nat.le_of_ble_eq_true rfl) rfl rfl g0 (Nat.le_of_ble_eq_true rfl) (Nat.le_of_ble_eq_true rfl) (ct_X9_takes g) ?_
      refine Ev.pick [1, 2, 3, 4, 5, 6, 7] rfl ?_
      exact lk_X9_narrows_157 hD hrec hk
def D_X9_narrows_129 (rec : Nat → Int → Int → Int → Int → Int → mS → Option mS) (x0 : Nat) (x1 : Int) (x2 : Int) (x4 : Int) (x5 : Int) (x7 : Int) (σ : mS) : Option mS :=
  D_X9_narrows_130 rec x0 x1 x2 x4 x5 x7 0 σ
set_option maxRecDepth 100000 in
set_option maxHeartbeats 4000000 in
theorem lk_X9_narrows_129 {G : mG} {rec : Nat → Int → Int → Int → Int → Int → mS → Option mS} {x0 : Nat} {x1 : Int} {x2 : Int} {x4 : Int} {x5 : Int} {x6 : Int} {x7 : Int} {σ : mS} {R : mS} {r : mX} {τ : mS} (hD : D_X9_narrows_129 rec x0 x1 x2 x4 x5 x7 σ = some R) (hrec : ∀ {x0 : Nat} {x1 : Int} {x2 : Int} {x4 : Int} {x5 : Int} {x7 : Int} {σ : mS} {R : mS}, rec x0 x1 x2 x4 x5 x7 σ = some R → ∀ {r : mX} {τ : mS}, Ev G M_X9_narrows 163 [(0, vr x0), (1, vi x1), (2, vi x2), (6, vi x6)] [] R r τ → Ev G M_X9_narrows 67 [(0, vr x0), (1, vi x1), (2, vi x2), (4, vi x4), (5, vi x5), (6, vi x6), (7, vi x7)] [] σ r τ) (hk : Ev G M_X9_narrows 163 [(0, vr x0), (1, vi x1), (2, vi x2), (6, vi x6)] [] R r τ) : Ev G M_X9_narrows 129 [(0, vr x0), (1, vi x1), (2, vi x2), (4, vi x4), (5, vi x5), (6, vi x6), (7, vi x7)] [] σ r τ := by
  unfold D_X9_narrows_129 at hD
  refine ev_iconst dX9_narrows_129 (mi_c rfl) ?_
  exact lk_X9_narrows_130 hD hrec hk
def D_X9_narrows_67 : Nat → Nat → Int → Int → Int → Int → Int → mS → Option mS
  | 0, _, _, _, _, _, _, _ => none
  | f + 1, x0, x1, x2, x4, x5, x7, σ =>
    if 1000 ≤ x7 then
      some σ
    else
      if (if (mw (x7 + x5)) < 999 then (mw (x7 + x5)) else 999) < (if 0 < (mw (x7 + x4)) then (mw (x7 + x4)) else 0) then
        D_X9_narrows_129 (D_X9_narrows_67 f) x0 x1 x2 x4 x5 x7 σ
      else
        (gR σ x0 8 26).bind fun v1 =>
        (lI σ v1 (mw ((if (mw (x7 + x5)) < 999 then (mw (x7 + x5)) else 999) + 1))).bind fun v2 =>
        (gR σ x0 8 26).bind fun v3 =>
        (lI σ v3 (if 0 < (mw (x7 + x4)) then (mw (x7 + x4)) else 0)).bind fun v4 =>
        if v2 ≤ v4 then
          D_X9_narrows_129 (D_X9_narrows_67 f) x0 x1 x2 x4 x5 x7 σ
        else
          D_X9_narrows_130 (D_X9_narrows_67 f) x0 x1 x2 x4 x5 x7 1 σ
set_option maxRecDepth 100000 in
set_option maxHeartbeats 4000000 in
theorem lk_X9_narrows_67 {G : mG} {x6 : Int} (f : Nat) : ∀ {x0 : Nat} {x1 : Int} {x2 : Int} {x4 : Int} {x5 : Int} {x7 : Int} {σ : mS} {R : mS}, D_X9_narrows_67 f x0 x1 x2 x4 x5 x7 σ = some R → ∀ {r : mX} {τ : mS}, Ev G M_X9_narrows 163 [(0, vr x0), (1, vi x1), (2, vi x2), (6, vi x6)] [] R r τ → Ev G M_X9_narrows 67 [(0, vr x0), (1, vi x1), (2, vi x2), (4, vi x4), (5, vi x5), (6, vi x6), (7, vi x7)] [] σ r τ := by
  induction f with
  | zero =>
    intros
    rename_i hD _ _ _
    cases hD
  | succ f ih =>
    intro x0 x1 x2 x4 x5 x7 σ R hD r τ hk
    have hrec := @ih
    rw [D_X9_narrows_67] at hD
    refine ev_iload dX9_narrows_67 6 rfl ?_
    refine ev_sp dX9_narrows_69 rfl ?_
    by_cases c : 1000 ≤ x7
    · rw [if_pos c] at hD
      refine ev_icmp_ge_t (tgt := 163) dX9_narrows_72 (by decide) c ?_
      cases hD
      refine Ev.pick [0, 1, 2, 5] rfl ?_
      exact hk
    · rw [if_neg c] at hD
      refine ev_icmp_ge_f 163 dX9_narrows_72 (by decide) c ?_
      refine ev_iconst dX9_narrows_75 (mi_c rfl) ?_
      refine ev_iload dX9_narrows_76 6 rfl ?_
      refine ev_iload dX9_narrows_78 3 rfl ?_
      refine ev_iadd dX9_narrows_80 ?_
      refine ev_mmax dX9_narrows_81 w_1670 w_569 w_133 w_570 (Nat.le_of_ble_eq_true rfl) (Nat.le_of_ble_eq_true rfl) (Nat.le_of_ble_eq_true rfl) ?_
      refine ev_istore dX9_narrows_84 (Nat.le_of_ble_eq_true rfl) rfl ?_
      refine ev_sp dX9_narrows_86 rfl ?_
      refine ev_iload dX9_narrows_89 7 rfl ?_
      refine ev_iload dX9_narrows_91 5 rfl ?_
      refine ev_iadd dX9_narrows_93 ?_
      refine ev_mmin dX9_narrows_94 w_1489 w_572 w_133 w_573 (Nat.le_of_ble_eq_true rfl) (Nat.le_of_ble_eq_true rfl) (Nat.le_of_ble_eq_true rfl) ?_
      refine ev_istore dX9_narrows_97 (Nat.le_of_ble_eq_true rfl) rfl ?_
      refine ev_iload dX9_narrows_99 1 rfl ?_
      refine ev_iload dX9_narrows_101 0 rfl ?_
      by_cases c : (if (mw (x7 + x5)) < 999 then (mw (x7 + x5)) else 999) < (if 0 < (mw (x7 + x4)) then (mw (x7 + x4)) else 0)
      · rw [if_pos c] at hD
        refine ev_icmp_gt_t (tgt := 129) dX9_narrows_103 (by decide) c ?_
        refine Ev.pick [2, 3, 4, 5, 6, 7, 8] rfl ?_
        exact lk_X9_narrows_129 hD hrec hk
      · rw [if_neg c] at hD
        refine ev_icmp_gt_f 129 dX9_narrows_103 (by decide) c ?_
        refine ev_aload_n dX9_narrows_106 2 rfl rfl ?_
        obtain ⟨v1, g, hD⟩ := bd hD
        refine ew_getR 8 26 dX9_narrows_107 rfl (Nat.le_of_ble_eq_true rfl) w_1291 in_X9 rfl g ?_
        refine ev_iload dX9_narrows_110 0 rfl ?_
        refine ev_iconst dX9_narrows_112 (mi_c rfl) ?_
        refine ev_iadd dX9_narrows_113 ?_
        obtain ⟨v2, g, hD⟩ := bd hD
        refine ew_iald dX9_narrows_114 g ?_
        refine ev_aload_n dX9_narrows_115 2 rfl rfl ?_
        obtain ⟨v3, g, hD⟩ := bd hD
        refine ew_getR 8 26 dX9_narrows_116 rfl (Nat.le_of_ble_eq_true rfl) w_1291 in_X9 rfl g ?_
        refine ev_iload dX9_narrows_119 1 rfl ?_
        obtain ⟨v4, g, hD⟩ := bd hD
        refine ew_iald dX9_narrows_121 g ?_
        by_cases c : v2 ≤ v4
        · rw [if_pos c] at hD
          refine ev_icmp_le_t (tgt := 129) dX9_narrows_122 (by decide) c ?_
          refine Ev.pick [2, 3, 4, 5, 6, 7, 8] rfl ?_
          exact lk_X9_narrows_129 hD hrec hk
        · rw [if_neg c] at hD
          refine ev_icmp_le_f 129 dX9_narrows_122 (by decide) c ?_
          refine ev_iconst dX9_narrows_125 (mi_c rfl) ?_
          refine ev_goto (tgt := 130) dX9_narrows_126 (by decide) ?_
          refine Ev.pick [2, 3, 4, 5, 6, 7, 8] rfl ?_
          exact lk_X9_narrows_130 hD hrec hk
def D_X9_narrows_178 (σ : mS) : Option mS :=
  some σ
set_option maxRecDepth 100000 in
set_option maxHeartbeats 4000000 in
theorem lk_X9_narrows_178 {G : mG} {σ : mS} {R : mS} (hD : D_X9_narrows_178  σ = some R) : Ev G M_X9_narrows 178 [] [] σ (.inl none) R := by
  unfold D_X9_narrows_178 at hD
  cases hD
  exact ev_ret none dX9_narrows_178 True.intro
def D_X9_narrows (x0 : Nat) (x1 : Int) (x2 : Int) (x3 : Int) (x4 : Int) (x5 : Int) (σ : mS) : Option mS :=
  (gR σ x0 8 26).bind fun v1 =>
  (sI σ v1 0 0).bind fun s2 =>
  (D_X9_narrows_10 mFU x0 x3 0 s2).bind fun r3 =>
  (gI r3 x0 8 23).bind fun v4 =>
  (D_X9_narrows_67 mFU x0 x1 x2 x4 x5 0 r3).bind fun r5 =>
  (gI r5 x0 8 23).bind fun v6 =>
  if v6 ≤ v4 then
    D_X9_narrows_178  r5
  else
    (tgO r5 x0 8).bind fun _ =>
    (D_X9_meets x0 x1 x2 r5).bind fun r7 =>
    D_X9_narrows_178  r7
set_option maxRecDepth 100000 in
set_option maxHeartbeats 4000000 in
theorem lk_X9_narrows {G : mG} {x0 : Nat} {x1 : Int} {x2 : Int} {x3 : Int} {x4 : Int} {x5 : Int} {σ : mS} {R : mS} (hD : D_X9_narrows x0 x1 x2 x3 x4 x5 σ = some R) : Ev G M_X9_narrows 0 [(0, vr x0), (1, vi x1), (2, vi x2), (3, vi x3), (4, vi x4), (5, vi x5)] [] σ (.inl none) R := by
  unfold D_X9_narrows at hD
  refine ev_aload_n dX9_narrows_0 0 rfl rfl ?_
  obtain ⟨v1, g, hD⟩ := bd hD
  refine ew_getR 8 26 dX9_narrows_1 rfl (Nat.le_of_ble_eq_true rfl) w_1291 in_X9 rfl g ?_
  refine ev_iconst dX9_narrows_4 (mi_c rfl) ?_
  refine ev_iconst dX9_narrows_5 (mi_c rfl) ?_
  obtain ⟨s2, g, hD⟩ := bd hD
  refine ew_iast dX9_narrows_6 g ?_
  refine ev_iconst dX9_narrows_7 (mi_c rfl) ?_
  refine ev_istore dX9_narrows_8 (Nat.le_of_ble_eq_true rfl) rfl ?_
  obtain ⟨r3, g, hD⟩ := bd hD
  refine Ev.pick [1, 2, 3, 4, 5, 6, 0] rfl ?_
  refine lk_X9_narrows_10 mFU g ?_
  refine ev_aload_n dX9_narrows_58 0 rfl rfl ?_
  obtain ⟨v4, g, hD⟩ := bd hD
  refine ew_getI 8 23 dX9_narrows_59 rfl (Nat.le_of_ble_eq_true rfl) w_1288 in_X9 rfl g ?_
  refine ev_istore dX9_narrows_62 (Nat.le_of_ble_eq_true rfl) rfl ?_
  refine ev_iconst dX9_narrows_64 (mi_c rfl) ?_
  refine ev_istore dX9_narrows_65 (Nat.le_of_ble_eq_true rfl) rfl ?_
  obtain ⟨r5, g, hD⟩ := bd hD
  refine Ev.pick [2, 3, 4, 5, 6, 1, 0] rfl ?_
  refine lk_X9_narrows_67 mFU g ?_
  refine ev_aload_n dX9_narrows_163 0 rfl rfl ?_
  obtain ⟨v6, g, hD⟩ := bd hD
  refine ew_getI 8 23 dX9_narrows_164 rfl (Nat.le_of_ble_eq_true rfl) w_1288 in_X9 rfl g ?_
  refine ev_iload dX9_narrows_167 3 rfl ?_
  by_cases c : v6 ≤ v4
  · rw [if_pos c] at hD
    refine ev_icmp_le_t (tgt := 178) dX9_narrows_169 (by decide) c ?_
    refine Ev.pick [] rfl ?_
    exact lk_X9_narrows_178 hD
  · rw [if_neg c] at hD
    refine ev_icmp_le_f 178 dX9_narrows_169 (by decide) c ?_
    refine ev_aload_n dX9_narrows_172 0 rfl rfl ?_
    refine ev_iload_n dX9_narrows_173 1 rfl rfl ?_
    refine ev_iload_n dX9_narrows_174 2 rfl rfl ?_
    obtain ⟨_, g0, hD⟩ := bd hD
    obtain ⟨r7, g, hD⟩ := bd hD
    refine ew_callV0 (as := [vi x1, vi x2]) (a := x0) (rest := []) dX9_narrows_175 v_X9_meets w_1646 rfl (Nat.le_of_ble_eq_true rfl) rfl rfl g0 (Nat.le_of_ble_eq_true rfl) (Nat.le_of_ble_eq_true rfl) (ct_X9_meets g) ?_
    refine Ev.pick [] rfl ?_
    exact lk_X9_narrows_178 hD
theorem ct_X9_narrows {G : mG} {x0 : Nat} {x1 : Int} {x2 : Int} {x3 : Int} {x4 : Int} {x5 : Int} {σ : mS} {R : mS} (hD : D_X9_narrows x0 x1 x2 x3 x4 x5 σ = some R) : Ct G M_X9_narrows [vr x0, vi x1, vi x2, vi x3, vi x4, vi x5] σ (.inl none) R := ct_of rfl (by decide +kernel) rfl (Nat.le_of_ble_eq_true rfl) rfl (lk_X9_narrows hD)
def D_X9_both (x0 : Nat) (x1 : Int) (x2 : Int) (x3 : Int) (x4 : Int) (x5 : Int) (σ : mS) : Option mS :=
  (tgO σ x0 8).bind fun _ =>
  (D_X9_narrows x0 x1 x3 x2 (mw (-x5)) (mw (-x4)) σ).bind fun r1 =>
  (tgO r1 x0 8).bind fun _ =>
  (D_X9_narrows x0 x1 x2 x3 x4 x5 r1).bind fun r2 =>
  some r2
set_option maxRecDepth 100000 in
set_option maxHeartbeats 4000000 in
theorem lk_X9_both {G : mG} {x0 : Nat} {x1 : Int} {x2 : Int} {x3 : Int} {x4 : Int} {x5 : Int} {σ : mS} {R : mS} (hD : D_X9_both x0 x1 x2 x3 x4 x5 σ = some R) : Ev G M_X9_both 0 [(0, vr x0), (1, vi x1), (2, vi x2), (3, vi x3), (4, vi x4), (5, vi x5)] [] σ (.inl none) R := by
  unfold D_X9_both at hD
  refine ev_aload_n dX9_both_0 0 rfl rfl ?_
  refine ev_iload_n dX9_both_1 1 rfl rfl ?_
  refine ev_iload_n dX9_both_2 3 rfl rfl ?_
  refine ev_iload_n dX9_both_3 2 rfl rfl ?_
  refine ev_iload dX9_both_4 5 rfl ?_
  refine ev_ineg dX9_both_6 ?_
  refine ev_iload dX9_both_7 4 rfl ?_
  refine ev_ineg dX9_both_9 ?_
  obtain ⟨_, g0, hD⟩ := bd hD
  obtain ⟨r1, g, hD⟩ := bd hD
  refine ew_callV0 (as := [vi x1, vi x3, vi x2, vi (mw (-x5)), vi (mw (-x4))]) (a := x0) (rest := []) dX9_both_10 v_X9_narrows w_1666 rfl (Nat.le_of_ble_eq_true rfl) rfl rfl g0 (Nat.le_of_ble_eq_true rfl) (Nat.le_of_ble_eq_true rfl) (ct_X9_narrows g) ?_
  refine ev_aload_n dX9_both_13 0 rfl rfl ?_
  refine ev_iload_n dX9_both_14 1 rfl rfl ?_
  refine ev_iload_n dX9_both_15 2 rfl rfl ?_
  refine ev_iload_n dX9_both_16 3 rfl rfl ?_
  refine ev_iload dX9_both_17 4 rfl ?_
  refine ev_iload dX9_both_19 5 rfl ?_
  obtain ⟨_, g0, hD⟩ := bd hD
  obtain ⟨r2, g, hD⟩ := bd hD
  refine ew_callV0 (as := [vi x1, vi x2, vi x3, vi x4, vi x5]) (a := x0) (rest := []) dX9_both_21 v_X9_narrows w_1666 rfl (Nat.le_of_ble_eq_true rfl) rfl rfl g0 (Nat.le_of_ble_eq_true rfl) (Nat.le_of_ble_eq_true rfl) (ct_X9_narrows g) ?_
  cases hD
  exact ev_ret none dX9_both_24 True.intro
theorem ct_X9_both {G : mG} {x0 : Nat} {x1 : Int} {x2 : Int} {x3 : Int} {x4 : Int} {x5 : Int} {σ : mS} {R : mS} (hD : D_X9_both x0 x1 x2 x3 x4 x5 σ = some R) : Ct G M_X9_both [vr x0, vi x1, vi x2, vi x3, vi x4, vi x5] σ (.inl none) R := ct_of rfl (by decide +kernel) rfl (Nat.le_of_ble_eq_true rfl) rfl (lk_X9_both hD)
def D_X9_bounded_50 (rec : Nat → Int → Int → Int → Int → Int → mS → Option mS) (x0 : Nat) (x1 : Int) (x2 : Int) (x3 : Int) (x4 : Int) (x6 : Int) (σ : mS) : Option mS :=
  rec x0 x1 x2 x3 x4 (mw (x6 + 1)) σ
set_option maxRecDepth 100000 in
set_option maxHeartbeats 4000000 in
theorem lk_X9_bounded_50 {G : mG} {rec : Nat → Int → Int → Int → Int → Int → mS → Option mS} {x0 : Nat} {x1 : Int} {x2 : Int} {x3 : Int} {x4 : Int} {x5 : Int} {x6 : Int} {σ : mS} {R : mS} {r : mX} {τ : mS} (hD : D_X9_bounded_50 rec x0 x1 x2 x3 x4 x6 σ = some R) (hrec : ∀ {x0 : Nat} {x1 : Int} {x2 : Int} {x3 : Int} {x4 : Int} {x6 : Int} {σ : mS} {R : mS}, rec x0 x1 x2 x3 x4 x6 σ = some R → ∀ {r : mX} {τ : mS}, Ev G M_X9_bounded 56 [(0, vr x0), (1, vi x1), (2, vi x2), (5, vi x5)] [] R r τ → Ev G M_X9_bounded 9 [(0, vr x0), (1, vi x1), (2, vi x2), (3, vi x3), (4, vi x4), (5, vi x5), (6, vi x6)] [] σ r τ) (hk : Ev G M_X9_bounded 56 [(0, vr x0), (1, vi x1), (2, vi x2), (5, vi x5)] [] R r τ) : Ev G M_X9_bounded 50 [(0, vr x0), (1, vi x1), (2, vi x2), (3, vi x3), (4, vi x4), (5, vi x5), (6, vi x6)] [] σ r τ := by
  unfold D_X9_bounded_50 at hD
  refine ev_iinc dX9_bounded_50 6 rfl (Nat.le_of_ble_eq_true rfl) rfl ?_
  refine ev_goto (tgt := 9) dX9_bounded_53 (by decide) ?_
  refine Ev.pick [1, 2, 3, 4, 5, 6, 0] rfl ?_
  exact hrec hD hk
def D_X9_bounded_42 (rec : Nat → Int → Int → Int → Int → Int → mS → Option mS) (x0 : Nat) (x1 : Int) (x2 : Int) (x3 : Int) (x4 : Int) (x6 : Int) (σ : mS) : Option mS :=
  (tgO σ x0 8).bind fun _ =>
  (D_X9_takes x0 x1 x2 x6 σ).bind fun r1 =>
  D_X9_bounded_50 rec x0 x1 x2 x3 x4 x6 r1
set_option maxRecDepth 100000 in
set_option maxHeartbeats 4000000 in
theorem lk_X9_bounded_42 {G : mG} {rec : Nat → Int → Int → Int → Int → Int → mS → Option mS} {x0 : Nat} {x1 : Int} {x2 : Int} {x3 : Int} {x4 : Int} {x5 : Int} {x6 : Int} {σ : mS} {R : mS} {r : mX} {τ : mS} (hD : D_X9_bounded_42 rec x0 x1 x2 x3 x4 x6 σ = some R) (hrec : ∀ {x0 : Nat} {x1 : Int} {x2 : Int} {x3 : Int} {x4 : Int} {x6 : Int} {σ : mS} {R : mS}, rec x0 x1 x2 x3 x4 x6 σ = some R → ∀ {r : mX} {τ : mS}, Ev G M_X9_bounded 56 [(0, vr x0), (1, vi x1), (2, vi x2), (5, vi x5)] [] R r τ → Ev G M_X9_bounded 9 [(0, vr x0), (1, vi x1), (2, vi x2), (3, vi x3), (4, vi x4), (5, vi x5), (6, vi x6)] [] σ r τ) (hk : Ev G M_X9_bounded 56 [(0, vr x0), (1, vi x1), (2, vi x2), (5, vi x5)] [] R r τ) : Ev G M_X9_bounded 42 [(0, vr x0), (1, vi x1), (2, vi x2), (3, vi x3), (4, vi x4), (5, vi x5), (6, vi x6)] [] σ r τ := by
  unfold D_X9_bounded_42 at hD
  refine ev_aload_n dX9_bounded_42 0 rfl rfl ?_
  refine ev_iload_n dX9_bounded_43 1 rfl rfl ?_
  refine ev_iload_n dX9_bounded_44 2 rfl rfl ?_
  refine ev_iload dX9_bounded_45 6 rfl ?_
  obtain ⟨_, g0, hD⟩ := bd hD
  obtain ⟨r1, g, hD⟩ := bd hD
  refine ew_callV0 (as := [vi x1, vi x2, vi x6]) (a := x0) (rest := []) dX9_bounded_47 v_X9_takes w_1671 rfl (Nat.le_of_ble_eq_true rfl) rfl rfl g0 (Nat.le_of_ble_eq_true rfl) (Nat.le_of_ble_eq_true rfl) (ct_X9_takes g) ?_
  exact lk_X9_bounded_50 hD hrec hk
def D_X9_bounded_9 : Nat → Nat → Int → Int → Int → Int → Int → mS → Option mS
  | 0, _, _, _, _, _, _, _ => none
  | f + 1, x0, x1, x2, x3, x4, x6, σ =>
    if 1000 ≤ x6 then
      some σ
    else
      (gR σ x0 8 14).bind fun v1 =>
      (lR σ v1 x2).bind fun v2 =>
      (lB σ v2 x6).bind fun v3 =>
      if v3 = 0 then
        D_X9_bounded_50 (D_X9_bounded_9 f) x0 x1 x2 x3 x4 x6 σ
      else
        if x6 < x3 then
          D_X9_bounded_42 (D_X9_bounded_9 f) x0 x1 x2 x3 x4 x6 σ
        else
          if x6 ≤ x4 then
            D_X9_bounded_50 (D_X9_bounded_9 f) x0 x1 x2 x3 x4 x6 σ
          else
            D_X9_bounded_42 (D_X9_bounded_9 f) x0 x1 x2 x3 x4 x6 σ
set_option maxRecDepth 100000 in
set_option maxHeartbeats 4000000 in
theorem lk_X9_bounded_9 {G : mG} {x5 : Int} (f : Nat) : ∀ {x0 : Nat} {x1 : Int} {x2 : Int} {x3 : Int} {x4 : Int} {x6 : Int} {σ : mS} {R : mS}, D_X9_bounded_9 f x0 x1 x2 x3 x4 x6 σ = some R → ∀ {r : mX} {τ : mS}, Ev G M_X9_bounded 56 [(0, vr x0), (1, vi x1), (2, vi x2), (5, vi x5)] [] R r τ → Ev G M_X9_bounded 9 [(0, vr x0), (1, vi x1), (2, vi x2), (3, vi x3), (4, vi x4), (5, vi x5), (6, vi x6)] [] σ r τ := by
  induction f with
  | zero =>
    intros
    rename_i hD _ _ _
    cases hD
  | succ f ih =>
    intro x0 x1 x2 x3 x4 x6 σ R hD r τ hk
    have hrec := @ih
    rw [D_X9_bounded_9] at hD
    refine ev_iload dX9_bounded_9 6 rfl ?_
    refine ev_sp dX9_bounded_11 rfl ?_
    by_cases c : 1000 ≤ x6
    · rw [if_pos c] at hD
      refine ev_icmp_ge_t (tgt := 56) dX9_bounded_14 (by decide) c ?_
      cases hD
      refine Ev.pick [0, 1, 2, 5] rfl ?_
      exact hk
    · rw [if_neg c] at hD
      refine ev_icmp_ge_f 56 dX9_bounded_14 (by decide) c ?_
      refine ev_aload_n dX9_bounded_17 0 rfl rfl ?_
      obtain ⟨v1, g, hD⟩ := bd hD
      refine ew_getR 8 14 dX9_bounded_18 rfl (Nat.le_of_ble_eq_true rfl) w_1279 in_X9 rfl g ?_
      refine ev_iload_n dX9_bounded_21 2 rfl rfl ?_
      obtain ⟨v2, g, hD⟩ := bd hD
      refine ew_aald dX9_bounded_22 g ?_
      refine ev_iload dX9_bounded_23 6 rfl ?_
      obtain ⟨v3, g, hD⟩ := bd hD
      refine ew_bald dX9_bounded_25 g ?_
      by_cases c : v3 = 0
      · rw [if_pos c] at hD
        refine ev_if_eq_t (tgt := 50) dX9_bounded_26 (by decide) c ?_
        exact lk_X9_bounded_50 hD hrec hk
      · rw [if_neg c] at hD
        refine ev_if_eq_f 50 dX9_bounded_26 (by decide) c ?_
        refine ev_iload dX9_bounded_29 6 rfl ?_
        refine ev_iload_n dX9_bounded_31 3 rfl rfl ?_
        by_cases c : x6 < x3
        · rw [if_pos c] at hD
          refine ev_icmp_lt_t (tgt := 42) dX9_bounded_32 (by decide) c ?_
          exact lk_X9_bounded_42 hD hrec hk
        · rw [if_neg c] at hD
          refine ev_icmp_lt_f 42 dX9_bounded_32 (by decide) c ?_
          refine ev_iload dX9_bounded_35 6 rfl ?_
          refine ev_iload dX9_bounded_37 4 rfl ?_
          by_cases c : x6 ≤ x4
          · rw [if_pos c] at hD
            refine ev_icmp_le_t (tgt := 50) dX9_bounded_39 (by decide) c ?_
            exact lk_X9_bounded_50 hD hrec hk
          · rw [if_neg c] at hD
            refine ev_icmp_le_f 50 dX9_bounded_39 (by decide) c ?_
            exact lk_X9_bounded_42 hD hrec hk
def D_X9_bounded_71 (σ : mS) : Option mS :=
  some σ
set_option maxRecDepth 100000 in
set_option maxHeartbeats 4000000 in
theorem lk_X9_bounded_71 {G : mG} {σ : mS} {R : mS} (hD : D_X9_bounded_71  σ = some R) : Ev G M_X9_bounded 71 [] [] σ (.inl none) R := by
  unfold D_X9_bounded_71 at hD
  cases hD
  exact ev_ret none dX9_bounded_71 True.intro
def D_X9_bounded (x0 : Nat) (x1 : Int) (x2 : Int) (x3 : Int) (x4 : Int) (σ : mS) : Option mS :=
  (gI σ x0 8 23).bind fun v1 =>
  (D_X9_bounded_9 mFU x0 x1 x2 x3 x4 0 σ).bind fun r2 =>
  (gI r2 x0 8 23).bind fun v3 =>
  if v3 ≤ v1 then
    D_X9_bounded_71  r2
  else
    (tgO r2 x0 8).bind fun _ =>
    (D_X9_meets x0 x1 x2 r2).bind fun r4 =>
    D_X9_bounded_71  r4
set_option maxRecDepth 100000 in
set_option maxHeartbeats 4000000 in
theorem lk_X9_bounded {G : mG} {x0 : Nat} {x1 : Int} {x2 : Int} {x3 : Int} {x4 : Int} {σ : mS} {R : mS} (hD : D_X9_bounded x0 x1 x2 x3 x4 σ = some R) : Ev G M_X9_bounded 0 [(0, vr x0), (1, vi x1), (2, vi x2), (3, vi x3), (4, vi x4)] [] σ (.inl none) R := by
  unfold D_X9_bounded at hD
  refine ev_aload_n dX9_bounded_0 0 rfl rfl ?_
  obtain ⟨v1, g, hD⟩ := bd hD
  refine ew_getI 8 23 dX9_bounded_1 rfl (Nat.le_of_ble_eq_true rfl) w_1288 in_X9 rfl g ?_
  refine ev_istore dX9_bounded_4 (Nat.le_of_ble_eq_true rfl) rfl ?_
  refine ev_iconst dX9_bounded_6 (mi_c rfl) ?_
  refine ev_istore dX9_bounded_7 (Nat.le_of_ble_eq_true rfl) rfl ?_
  obtain ⟨r2, g, hD⟩ := bd hD
  refine Ev.pick [2, 3, 4, 5, 6, 1, 0] rfl ?_
  refine lk_X9_bounded_9 mFU g ?_
  refine ev_aload_n dX9_bounded_56 0 rfl rfl ?_
  obtain ⟨v3, g, hD⟩ := bd hD
  refine ew_getI 8 23 dX9_bounded_57 rfl (Nat.le_of_ble_eq_true rfl) w_1288 in_X9 rfl g ?_
  refine ev_iload dX9_bounded_60 3 rfl ?_
  by_cases c : v3 ≤ v1
  · rw [if_pos c] at hD
    refine ev_icmp_le_t (tgt := 71) dX9_bounded_62 (by decide) c ?_
    refine Ev.pick [] rfl ?_
    exact lk_X9_bounded_71 hD
  · rw [if_neg c] at hD
    refine ev_icmp_le_f 71 dX9_bounded_62 (by decide) c ?_
    refine ev_aload_n dX9_bounded_65 0 rfl rfl ?_
    refine ev_iload_n dX9_bounded_66 1 rfl rfl ?_
    refine ev_iload_n dX9_bounded_67 2 rfl rfl ?_
    obtain ⟨_, g0, hD⟩ := bd hD
    obtain ⟨r4, g, hD⟩ := bd hD
    refine ew_callV0 (as := [vi x1, vi x2]) (a := x0) (rest := []) dX9_bounded_68 v_X9_meets w_1646 rfl (Nat.le_of_ble_eq_true rfl) rfl rfl g0 (Nat.le_of_ble_eq_true rfl) (Nat.le_of_ble_eq_true rfl) (ct_X9_meets g) ?_
    refine Ev.pick [] rfl ?_
    exact lk_X9_bounded_71 hD
theorem ct_X9_bounded {G : mG} {x0 : Nat} {x1 : Int} {x2 : Int} {x3 : Int} {x4 : Int} {σ : mS} {R : mS} (hD : D_X9_bounded x0 x1 x2 x3 x4 σ = some R) : Ct G M_X9_bounded [vr x0, vi x1, vi x2, vi x3, vi x4] σ (.inl none) R := ct_of rfl (by decide +kernel) rfl (Nat.le_of_ble_eq_true rfl) rfl (lk_X9_bounded hD)
def D_X9_orders_35 (σ : mS) : Option mS :=
  some σ
set_option maxRecDepth 100000 in
set_option maxHeartbeats 4000000 in
theorem lk_X9_orders_35 {G : mG} {σ : mS} {R : mS} (hD : D_X9_orders_35  σ = some R) : Ev G M_X9_orders 35 [] [] σ (.inl none) R := by
  unfold D_X9_orders_35 at hD
  cases hD
  exact ev_ret none dX9_orders_35 True.intro
def D_X9_orders (x0 : Nat) (x1 : Int) (x2 : Int) (x3 : Int) (x4 : Int) (σ : mS) : Option mS :=
  if x2 = x3 then
    if x4 ≤ 0 then
      D_X9_orders_35  σ
    else
      (tgO σ x0 8).bind fun _ =>
      (D_X9_bounded x0 x1 x2 1000 ((-1)) σ).bind fun r1 =>
      D_X9_orders_35  r1
  else
    (tgO σ x0 8).bind fun _ =>
    (D_X9_both x0 x1 x2 x3 x4 999 σ).bind fun r2 =>
    D_X9_orders_35  r2
set_option maxRecDepth 100000 in
set_option maxHeartbeats 4000000 in
theorem lk_X9_orders {G : mG} {x0 : Nat} {x1 : Int} {x2 : Int} {x3 : Int} {x4 : Int} {σ : mS} {R : mS} (hD : D_X9_orders x0 x1 x2 x3 x4 σ = some R) : Ev G M_X9_orders 0 [(0, vr x0), (1, vi x1), (2, vi x2), (3, vi x3), (4, vi x4)] [] σ (.inl none) R := by
  unfold D_X9_orders at hD
  refine ev_iload_n dX9_orders_0 2 rfl rfl ?_
  refine ev_iload_n dX9_orders_1 3 rfl rfl ?_
  by_cases c : x2 = x3
  · rw [if_pos c] at hD
    refine ev_icmp_eq_t (tgt := 20) dX9_orders_2 (by decide) c ?_
    refine ev_iload dX9_orders_20 4 rfl ?_
    by_cases c : x4 ≤ 0
    · rw [if_pos c] at hD
      refine ev_if_le_t (tgt := 35) dX9_orders_22 (by decide) c ?_
      refine Ev.pick [] rfl ?_
      exact lk_X9_orders_35 hD
    · rw [if_neg c] at hD
      refine ev_if_le_f 35 dX9_orders_22 (by decide) c ?_
      refine ev_aload_n dX9_orders_25 0 rfl rfl ?_
      refine ev_iload_n dX9_orders_26 1 rfl rfl ?_
      refine ev_iload_n dX9_orders_27 2 rfl rfl ?_
      refine ev_sp dX9_orders_28 rfl ?_
      refine ev_iconst dX9_orders_31 (mi_c rfl) ?_
      obtain ⟨_, g0, hD⟩ := bd hD
      obtain ⟨r1, g, hD⟩ := bd hD
      refine ew_callV0 (as := [vi x1, vi x2, vi 1000, vi ((-1))]) (a := x0) (rest := []) dX9_orders_32 v_X9_bounded w_1675 rfl (Nat.le_of_ble_eq_true rfl) rfl rfl g0 (Nat.le_of_ble_eq_true rfl) (Nat.le_of_ble_eq_true rfl) (ct_X9_bounded g) ?_
      refine Ev.pick [] rfl ?_
      exact lk_X9_orders_35 hD
  · rw [if_neg c] at hD
    refine ev_icmp_eq_f 20 dX9_orders_2 (by decide) c ?_
    refine ev_aload_n dX9_orders_5 0 rfl rfl ?_
    refine ev_iload_n dX9_orders_6 1 rfl rfl ?_
    refine ev_iload_n dX9_orders_7 2 rfl rfl ?_
    refine ev_iload_n dX9_orders_8 3 rfl rfl ?_
    refine ev_iload dX9_orders_9 4 rfl ?_
    refine ev_sp dX9_orders_11 rfl ?_
    obtain ⟨_, g0, hD⟩ := bd hD
    obtain ⟨r2, g, hD⟩ := bd hD
    refine ew_callV0 (as := [vi x1, vi x2, vi x3, vi x4, vi 999]) (a := x0) (rest := []) dX9_orders_14 v_X9_both w_1662 rfl (Nat.le_of_ble_eq_true rfl) rfl rfl g0 (Nat.le_of_ble_eq_true rfl) (Nat.le_of_ble_eq_true rfl) (ct_X9_both g) ?_
    refine ev_goto (tgt := 35) dX9_orders_17 (by decide) ?_
    refine Ev.pick [] rfl ?_
    exact lk_X9_orders_35 hD
theorem ct_X9_orders {G : mG} {x0 : Nat} {x1 : Int} {x2 : Int} {x3 : Int} {x4 : Int} {σ : mS} {R : mS} (hD : D_X9_orders x0 x1 x2 x3 x4 σ = some R) : Ct G M_X9_orders [vr x0, vi x1, vi x2, vi x3, vi x4] σ (.inl none) R := ct_of rfl (by decide +kernel) rfl (Nat.le_of_ble_eq_true rfl) rfl (lk_X9_orders hD)
def D_X9_memberOf (x0 : Nat) (x1 : Int) (x2 : Int) (σ : mS) : Option Int :=
  (gR σ x0 8 12).bind fun v1 =>
  (lI σ v1 (mw ((mw (6 * x1)) + x2))).bind fun v2 =>
  some v2
set_option maxRecDepth 100000 in
set_option maxHeartbeats 4000000 in
theorem lk_X9_memberOf {G : mG} {x0 : Nat} {x1 : Int} {x2 : Int} {σ : mS} {R : Int} (hD : D_X9_memberOf x0 x1 x2 σ = some R) : Ev G M_X9_memberOf 0 [(0, vr x0), (1, vi x1), (2, vi x2)] [] σ (.inl (some (vi R))) σ := by
  unfold D_X9_memberOf at hD
  refine ev_aload_n dX9_memberOf_0 0 rfl rfl ?_
  obtain ⟨v1, g, hD⟩ := bd hD
  refine ew_getR 8 12 dX9_memberOf_1 rfl (Nat.le_of_ble_eq_true rfl) w_1277 in_X9 rfl g ?_
  refine ev_bp dX9_memberOf_4 rfl ?_
  refine ev_iload_n dX9_memberOf_6 1 rfl rfl ?_
  refine ev_imul dX9_memberOf_7 ?_
  refine ev_iload_n dX9_memberOf_8 2 rfl rfl ?_
  refine ev_iadd dX9_memberOf_9 ?_
  obtain ⟨v2, g, hD⟩ := bd hD
  refine ew_iald dX9_memberOf_10 g ?_
  cases hD
  exact ev_ret (some (vi _)) dX9_memberOf_11 True.intro
theorem ct_X9_memberOf {G : mG} {x0 : Nat} {x1 : Int} {x2 : Int} {σ : mS} {R : Int} (hD : D_X9_memberOf x0 x1 x2 σ = some R) : Ct G M_X9_memberOf [vr x0, vi x1, vi x2] σ (.inl (some (vi R))) σ := ct_of rfl (by decide +kernel) rfl (Nat.le_of_ble_eq_true rfl) rfl (lk_X9_memberOf hD)
def D_X9_applies_251 (σ : mS) : Option mS :=
  some σ
set_option maxRecDepth 100000 in
set_option maxHeartbeats 4000000 in
theorem lk_X9_applies_251 {G : mG} {σ : mS} {R : mS} (hD : D_X9_applies_251  σ = some R) : Ev G M_X9_applies 251 [] [] σ (.inl none) R := by
  unfold D_X9_applies_251 at hD
  cases hD
  exact ev_ret none dX9_applies_251 True.intro
def D_X9_applies_137 : Nat → Nat → Int → Int → Int → Int → Int → Int → mS → Option mS
  | 0, _, _, _, _, _, _, _, _ => none
  | f + 1, x0, x1, x2, x3, x4, x5, x6, σ =>
    (gR σ x0 8 11).bind fun v1 =>
    (lI σ v1 x3).bind fun v2 =>
    if v2 ≤ x6 then
      some σ
    else
      (tgO σ x0 8).bind fun _ =>
      (D_X9_memberOf x0 x2 x5 σ).bind fun r3 =>
      (tgO σ x0 8).bind fun _ =>
      (D_X9_memberOf x0 x3 x6 σ).bind fun r4 =>
      (tgO σ x0 8).bind fun _ =>
      (D_X9_orders x0 x1 r3 r4 x4 σ).bind fun r5 =>
      (D_X9_applies_137 f) x0 x1 x2 x3 x4 x5 (mw (x6 + 1)) r5
set_option maxRecDepth 100000 in
set_option maxHeartbeats 4000000 in
theorem lk_X9_applies_137 {G : mG} (f : Nat) : ∀ {x0 : Nat} {x1 : Int} {x2 : Int} {x3 : Int} {x4 : Int} {x5 : Int} {x6 : Int} {σ : mS} {R : mS}, D_X9_applies_137 f x0 x1 x2 x3 x4 x5 x6 σ = some R → ∀ {r : mX} {τ : mS}, Ev G M_X9_applies 175 [(0, vr x0), (1, vi x1), (2, vi x2), (3, vi x3), (4, vi x4), (5, vi x5)] [] R r τ → Ev G M_X9_applies 137 [(0, vr x0), (1, vi x1), (2, vi x2), (3, vi x3), (4, vi x4), (5, vi x5), (6, vi x6)] [] σ r τ := by
  induction f with
  | zero =>
    intros
    rename_i hD _ _ _
    cases hD
  | succ f ih =>
    intro x0 x1 x2 x3 x4 x5 x6 σ R hD r τ hk
    have hrec := @ih
    rw [D_X9_applies_137] at hD
    refine ev_iload dX9_applies_137 6 rfl ?_
    refine ev_aload_n dX9_applies_139 0 rfl rfl ?_
    obtain ⟨v1, g, hD⟩ := bd hD
    refine ew_getR 8 11 dX9_applies_140 rfl (Nat.le_of_ble_eq_true rfl) w_1276 in_X9 rfl g ?_
    refine ev_iload_n dX9_applies_143 3 rfl rfl ?_
    obtain ⟨v2, g, hD⟩ := bd hD
    refine ew_iald dX9_applies_144 g ?_
    by_cases c : v2 ≤ x6
    · rw [if_pos c] at hD
      refine ev_icmp_ge_t (tgt := 175) dX9_applies_145 (by decide) c ?_
      cases hD
      refine Ev.pick [0, 1, 2, 3, 4, 5] rfl ?_
      exact hk
    · rw [if_neg c] at hD
      refine ev_icmp_ge_f 175 dX9_applies_145 (by decide) c ?_
      refine ev_aload_n dX9_applies_148 0 rfl rfl ?_
      refine ev_iload_n dX9_applies_149 1 rfl rfl ?_
      refine ev_aload_n dX9_applies_150 0 rfl rfl ?_
      refine ev_iload_n dX9_applies_151 2 rfl rfl ?_
      refine ev_iload dX9_applies_152 5 rfl ?_
      obtain ⟨_, g0, hD⟩ := bd hD
      obtain ⟨r3, g, hD⟩ := bd hD
      refine ew_callVv (as := [vi x2, vi x5]) (a := x0) (rest := [vi x1, vr x0]) dX9_applies_154 v_X9_memberOf w_1679 rfl (Nat.le_of_ble_eq_true rfl) rfl rfl g0 (Nat.le_of_ble_eq_true rfl) (Nat.le_of_ble_eq_true rfl) (ct_X9_memberOf g) ?_
      refine ev_aload_n dX9_applies_157 0 rfl rfl ?_
      refine ev_iload_n dX9_applies_158 3 rfl rfl ?_
      refine ev_iload dX9_applies_159 6 rfl ?_
      obtain ⟨_, g0, hD⟩ := bd hD
      obtain ⟨r4, g, hD⟩ := bd hD
      refine ew_callVv (as := [vi x3, vi x6]) (a := x0) (rest := [vi r3, vi x1, vr x0]) dX9_applies_161 v_X9_memberOf w_1679 rfl (Nat.le_of_ble_eq_true rfl) rfl rfl g0 (Nat.le_of_ble_eq_true rfl) (Nat.le_of_ble_eq_true rfl) (ct_X9_memberOf g) ?_
      refine ev_iload dX9_applies_164 4 rfl ?_
      obtain ⟨_, g0, hD⟩ := bd hD
      obtain ⟨r5, g, hD⟩ := bd hD
      refine ew_callV0 (as := [vi x1, vi r3, vi r4, vi x4]) (a := x0) (rest := []) dX9_applies_166 v_X9_orders w_1683 rfl (Nat.le_of_ble_eq_true rfl) rfl rfl g0 (Nat.le_of_ble_eq_true rfl) (Nat.le_of_ble_eq_true rfl) (ct_X9_orders g) ?_
      refine ev_iinc dX9_applies_169 6 rfl (Nat.le_of_ble_eq_true rfl) rfl ?_
      refine ev_goto (tgt := 137) dX9_applies_172 (by decide) ?_
      refine Ev.pick [1, 2, 3, 4, 5, 6, 0] rfl ?_
      exact hrec hD hk
def D_X9_applies_123 : Nat → Nat → Int → Int → Int → Int → Int → mS → Option mS
  | 0, _, _, _, _, _, _, _ => none
  | f + 1, x0, x1, x2, x3, x4, x5, σ =>
    (gR σ x0 8 11).bind fun v1 =>
    (lI σ v1 x2).bind fun v2 =>
    if v2 ≤ x5 then
      some σ
    else
      (D_X9_applies_137 mFU x0 x1 x2 x3 x4 x5 0 σ).bind fun r3 =>
      (D_X9_applies_123 f) x0 x1 x2 x3 x4 (mw (x5 + 1)) r3
set_option maxRecDepth 100000 in
set_option maxHeartbeats 4000000 in
theorem lk_X9_applies_123 {G : mG} (f : Nat) : ∀ {x0 : Nat} {x1 : Int} {x2 : Int} {x3 : Int} {x4 : Int} {x5 : Int} {σ : mS} {R : mS}, D_X9_applies_123 f x0 x1 x2 x3 x4 x5 σ = some R → ∀ {r : mX} {τ : mS}, Ev G M_X9_applies 181 [] [] R r τ → Ev G M_X9_applies 123 [(0, vr x0), (1, vi x1), (2, vi x2), (3, vi x3), (4, vi x4), (5, vi x5)] [] σ r τ := by
  induction f with
  | zero =>
    intros
    rename_i hD _ _ _
    cases hD
  | succ f ih =>
    intro x0 x1 x2 x3 x4 x5 σ R hD r τ hk
    have hrec := @ih
    rw [D_X9_applies_123] at hD
    refine ev_iload dX9_applies_123 5 rfl ?_
    refine ev_aload_n dX9_applies_125 0 rfl rfl ?_
    obtain ⟨v1, g, hD⟩ := bd hD
    refine ew_getR 8 11 dX9_applies_126 rfl (Nat.le_of_ble_eq_true rfl) w_1276 in_X9 rfl g ?_
    refine ev_iload_n dX9_applies_129 2 rfl rfl ?_
    obtain ⟨v2, g, hD⟩ := bd hD
    refine ew_iald dX9_applies_130 g ?_
    by_cases c : v2 ≤ x5
    · rw [if_pos c] at hD
      refine ev_icmp_ge_t (tgt := 181) dX9_applies_131 (by decide) c ?_
      cases hD
      refine Ev.pick [] rfl ?_
      exact hk
    · rw [if_neg c] at hD
      refine ev_icmp_ge_f 181 dX9_applies_131 (by decide) c ?_
      refine ev_iconst dX9_applies_134 (mi_c rfl) ?_
      refine ev_istore dX9_applies_135 (Nat.le_of_ble_eq_true rfl) rfl ?_
      obtain ⟨r3, g, hD⟩ := bd hD
      refine Ev.pick [1, 2, 3, 4, 5, 6, 0] rfl ?_
      refine lk_X9_applies_137 mFU g ?_
      refine ev_iinc dX9_applies_175 5 rfl (Nat.le_of_ble_eq_true rfl) rfl ?_
      refine ev_goto (tgt := 123) dX9_applies_178 (by decide) ?_
      refine Ev.pick [1, 2, 3, 4, 5, 0] rfl ?_
      exact hrec hD hk
def D_X9_applies_204 : Nat → Nat → Int → Int → Int → Int → Int → mS → Option mS
  | 0, _, _, _, _, _, _, _ => none
  | f + 1, x0, x1, x2, x4, x5, x6, σ =>
    (gR σ x0 8 11).bind fun v1 =>
    (lI σ v1 x2).bind fun v2 =>
    if v2 ≤ x6 then
      some σ
    else
      (tgO σ x0 8).bind fun _ =>
      (D_X9_memberOf x0 x2 x5 σ).bind fun r3 =>
      (tgO σ x0 8).bind fun _ =>
      (D_X9_memberOf x0 x2 x6 σ).bind fun r4 =>
      (tgO σ x0 8).bind fun _ =>
      (D_X9_both x0 x1 r3 r4 (mw (-x4)) x4 σ).bind fun r5 =>
      (D_X9_applies_204 f) x0 x1 x2 x4 x5 (mw (x6 + 1)) r5
set_option maxRecDepth 100000 in
set_option maxHeartbeats 4000000 in
theorem lk_X9_applies_204 {G : mG} (f : Nat) : ∀ {x0 : Nat} {x1 : Int} {x2 : Int} {x4 : Int} {x5 : Int} {x6 : Int} {σ : mS} {R : mS}, D_X9_applies_204 f x0 x1 x2 x4 x5 x6 σ = some R → ∀ {r : mX} {τ : mS}, Ev G M_X9_applies 245 [(0, vr x0), (1, vi x1), (2, vi x2), (4, vi x4), (5, vi x5)] [] R r τ → Ev G M_X9_applies 204 [(0, vr x0), (1, vi x1), (2, vi x2), (4, vi x4), (5, vi x5), (6, vi x6)] [] σ r τ := by
  induction f with
  | zero =>
    intros
    rename_i hD _ _ _
    cases hD
  | succ f ih =>
    intro x0 x1 x2 x4 x5 x6 σ R hD r τ hk
    have hrec := @ih
    rw [D_X9_applies_204] at hD
    refine ev_iload dX9_applies_204 5 rfl ?_
    refine ev_aload_n dX9_applies_206 0 rfl rfl ?_
    obtain ⟨v1, g, hD⟩ := bd hD
    refine ew_getR 8 11 dX9_applies_207 rfl (Nat.le_of_ble_eq_true rfl) w_1276 in_X9 rfl g ?_
    refine ev_iload_n dX9_applies_210 2 rfl rfl ?_
    obtain ⟨v2, g, hD⟩ := bd hD
    refine ew_iald dX9_applies_211 g ?_
    by_cases c : v2 ≤ x6
    · rw [if_pos c] at hD
      refine ev_icmp_ge_t (tgt := 245) dX9_applies_212 (by decide) c ?_
      cases hD
      refine Ev.pick [0, 1, 2, 3, 4] rfl ?_
      exact hk
    · rw [if_neg c] at hD
      refine ev_icmp_ge_f 245 dX9_applies_212 (by decide) c ?_
      refine ev_aload_n dX9_applies_215 0 rfl rfl ?_
      refine ev_iload_n dX9_applies_216 1 rfl rfl ?_
      refine ev_aload_n dX9_applies_217 0 rfl rfl ?_
      refine ev_iload_n dX9_applies_218 2 rfl rfl ?_
      refine ev_iload dX9_applies_219 4 rfl ?_
      obtain ⟨_, g0, hD⟩ := bd hD
      obtain ⟨r3, g, hD⟩ := bd hD
      refine ew_callVv (as := [vi x2, vi x5]) (a := x0) (rest := [vi x1, vr x0]) dX9_applies_221 v_X9_memberOf w_1679 rfl (Nat.le_of_ble_eq_true rfl) rfl rfl g0 (Nat.le_of_ble_eq_true rfl) (Nat.le_of_ble_eq_true rfl) (ct_X9_memberOf g) ?_
      refine ev_aload_n dX9_applies_224 0 rfl rfl ?_
      refine ev_iload_n dX9_applies_225 2 rfl rfl ?_
      refine ev_iload dX9_applies_226 5 rfl ?_
      obtain ⟨_, g0, hD⟩ := bd hD
      obtain ⟨r4, g, hD⟩ := bd hD
      refine ew_callVv (as := [vi x2, vi x6]) (a := x0) (rest := [vi r3, vi x1, vr x0]) dX9_applies_228 v_X9_memberOf w_1679 rfl (Nat.le_of_ble_eq_true rfl) rfl rfl g0 (Nat.le_of_ble_eq_true rfl) (Nat.le_of_ble_eq_true rfl) (ct_X9_memberOf g) ?_
      refine ev_iload dX9_applies_231 3 rfl ?_
      refine ev_ineg dX9_applies_233 ?_
      refine ev_iload dX9_applies_234 3 rfl ?_
      obtain ⟨_, g0, hD⟩ := bd hD
      obtain ⟨r5, g, hD⟩ := bd hD
      refine ew_callV0 (as := [vi x1, vi r3, vi r4, vi (mw (-x4)), vi x4]) (a := x0) (rest := []) dX9_applies_236 v_X9_both w_1662 rfl (Nat.le_of_ble_eq_true rfl) rfl rfl g0 (Nat.le_of_ble_eq_true rfl) (Nat.le_of_ble_eq_true rfl) (ct_X9_both g) ?_
      refine ev_iinc dX9_applies_239 5 rfl (Nat.le_of_ble_eq_true rfl) rfl ?_
      refine ev_goto (tgt := 204) dX9_applies_242 (by decide) ?_
      refine Ev.pick [1, 2, 3, 4, 5, 0] rfl ?_
      exact hrec hD hk
def D_X9_applies_187 : Nat → Nat → Int → Int → Int → Int → mS → Option mS
  | 0, _, _, _, _, _, _ => none
  | f + 1, x0, x1, x2, x4, x5, σ =>
    (gR σ x0 8 11).bind fun v1 =>
    (lI σ v1 x2).bind fun v2 =>
    if v2 ≤ x5 then
      some σ
    else
      (D_X9_applies_204 mFU x0 x1 x2 x4 x5 (mw (x5 + 1)) σ).bind fun r3 =>
      (D_X9_applies_187 f) x0 x1 x2 x4 (mw (x5 + 1)) r3
set_option maxRecDepth 100000 in
set_option maxHeartbeats 4000000 in
theorem lk_X9_applies_187 {G : mG} (f : Nat) : ∀ {x0 : Nat} {x1 : Int} {x2 : Int} {x4 : Int} {x5 : Int} {σ : mS} {R : mS}, D_X9_applies_187 f x0 x1 x2 x4 x5 σ = some R → ∀ {r : mX} {τ : mS}, Ev G M_X9_applies 251 [] [] R r τ → Ev G M_X9_applies 187 [(0, vr x0), (1, vi x1), (2, vi x2), (4, vi x4), (5, vi x5)] [] σ r τ := by
  induction f with
  | zero =>
    intros
    rename_i hD _ _ _
    cases hD
  | succ f ih =>
    intro x0 x1 x2 x4 x5 σ R hD r τ hk
    have hrec := @ih
    rw [D_X9_applies_187] at hD
    refine ev_iload dX9_applies_187 4 rfl ?_
    refine ev_aload_n dX9_applies_189 0 rfl rfl ?_
    obtain ⟨v1, g, hD⟩ := bd hD
    refine ew_getR 8 11 dX9_applies_190 rfl (Nat.le_of_ble_eq_true rfl) w_1276 in_X9 rfl g ?_
    refine ev_iload_n dX9_applies_193 2 rfl rfl ?_
    obtain ⟨v2, g, hD⟩ := bd hD
    refine ew_iald dX9_applies_194 g ?_
    by_cases c : v2 ≤ x5
    · rw [if_pos c] at hD
      refine ev_icmp_ge_t (tgt := 251) dX9_applies_195 (by decide) c ?_
      cases hD
      refine Ev.pick [] rfl ?_
      exact hk
    · rw [if_neg c] at hD
      refine ev_icmp_ge_f 251 dX9_applies_195 (by decide) c ?_
      refine ev_iload dX9_applies_198 4 rfl ?_
      refine ev_iconst dX9_applies_200 (mi_c rfl) ?_
      refine ev_iadd dX9_applies_201 ?_
      refine ev_istore dX9_applies_202 (Nat.le_of_ble_eq_true rfl) rfl ?_
      obtain ⟨r3, g, hD⟩ := bd hD
      refine Ev.pick [1, 2, 3, 4, 5, 0] rfl ?_
      refine lk_X9_applies_204 mFU g ?_
      refine ev_iinc dX9_applies_245 4 rfl (Nat.le_of_ble_eq_true rfl) rfl ?_
      refine ev_goto (tgt := 187) dX9_applies_248 (by decide) ?_
      refine Ev.pick [1, 2, 3, 4, 0] rfl ?_
      exact hrec hD hk
def D_X9_applies (x0 : Nat) (x1 : Int) (σ : mS) : Option mS :=
  (tgO σ x0 8).bind fun _ =>
  (D_X9_ruleAt x0 x1 1 σ).bind fun r1 =>
  (tgO σ x0 8).bind fun _ =>
  (D_X9_ruleAt x0 x1 2 σ).bind fun r2 =>
  (tgO σ x0 8).bind fun _ =>
  (D_X9_ruleAt x0 x1 3 σ).bind fun r3 =>
  (tgO σ x0 8).bind fun _ =>
  (D_X9_ruleAt x0 x1 0 σ).bind fun r4 =>
  if r4 = 0 then
    (tgO σ x0 8).bind fun _ =>
    (D_X9_ruleAt x0 x1 4 σ).bind fun r5 =>
    (tgO σ x0 8).bind fun _ =>
    (D_X9_both x0 x1 r1 r2 r3 r5 σ).bind fun r6 =>
    D_X9_applies_251  r6
  else
  if r4 = 1 then
    (tgO σ x0 8).bind fun _ =>
    (D_X9_both x0 x1 r1 r2 0 0 σ).bind fun r7 =>
    D_X9_applies_251  r7
  else
  if r4 = 2 then
    (tgO σ x0 8).bind fun _ =>
    (D_X9_bounded x0 x1 r1 r3 999 σ).bind fun r8 =>
    D_X9_applies_251  r8
  else
  if r4 = 3 then
    (tgO σ x0 8).bind fun _ =>
    (D_X9_bounded x0 x1 r1 0 r3 σ).bind fun r9 =>
    D_X9_applies_251  r9
  else
  if r4 = 4 then
    (D_X9_applies_123 mFU x0 x1 r1 r2 r3 0 σ).bind fun r10 =>
    D_X9_applies_251  r10
  else
    (D_X9_applies_187 mFU x0 x1 r1 r3 0 σ).bind fun r11 =>
    D_X9_applies_251  r11
set_option maxRecDepth 100000 in
set_option maxHeartbeats 4000000 in
theorem lk_X9_applies {G : mG} {x0 : Nat} {x1 : Int} {σ : mS} {R : mS} (hD : D_X9_applies x0 x1 σ = some R) : Ev G M_X9_applies 0 [(0, vr x0), (1, vi x1)] [] σ (.inl none) R := by
  unfold D_X9_applies at hD
  refine ev_aload_n dX9_applies_0 0 rfl rfl ?_
  refine ev_iload_n dX9_applies_1 1 rfl rfl ?_
  refine ev_iconst dX9_applies_2 (mi_c rfl) ?_
  obtain ⟨_, g0, hD⟩ := bd hD
  obtain ⟨r1, g, hD⟩ := bd hD
  refine ew_callVv (as := [vi x1, vi 1]) (a := x0) (rest := []) dX9_applies_3 v_X9_ruleAt w_1658 rfl (Nat.le_of_ble_eq_true rfl) rfl rfl g0 (Nat.le_of_ble_eq_true rfl) (Nat.le_of_ble_eq_true rfl) (ct_X9_ruleAt g) ?_
  refine ev_istore_n dX9_applies_6 rfl (Nat.le_of_ble_eq_true rfl) rfl ?_
  refine ev_aload_n dX9_applies_7 1 rfl rfl ?_
  refine ev_iload_n dX9_applies_8 2 rfl rfl ?_
  refine ev_iconst dX9_applies_9 (mi_c rfl) ?_
  obtain ⟨_, g0, hD⟩ := bd hD
  obtain ⟨r2, g, hD⟩ := bd hD
  refine ew_callVv (as := [vi x1, vi 2]) (a := x0) (rest := []) dX9_applies_10 v_X9_ruleAt w_1658 rfl (Nat.le_of_ble_eq_true rfl) rfl rfl g0 (Nat.le_of_ble_eq_true rfl) (Nat.le_of_ble_eq_true rfl) (ct_X9_ruleAt g) ?_
  refine ev_istore_n dX9_applies_13 rfl (Nat.le_of_ble_eq_true rfl) rfl ?_
  refine ev_aload_n dX9_applies_14 2 rfl rfl ?_
  refine ev_iload_n dX9_applies_15 3 rfl rfl ?_
  refine ev_iconst dX9_applies_16 (mi_c rfl) ?_
  obtain ⟨_, g0, hD⟩ := bd hD
  obtain ⟨r3, g, hD⟩ := bd hD
  refine ew_callVv (as := [vi x1, vi 3]) (a := x0) (rest := []) dX9_applies_17 v_X9_ruleAt w_1658 rfl (Nat.le_of_ble_eq_true rfl) rfl rfl g0 (Nat.le_of_ble_eq_true rfl) (Nat.le_of_ble_eq_true rfl) (ct_X9_ruleAt g) ?_
  refine ev_istore dX9_applies_20 (Nat.le_of_ble_eq_true rfl) rfl ?_
  refine ev_aload_n dX9_applies_22 3 rfl rfl ?_
  refine ev_iload_n dX9_applies_23 4 rfl rfl ?_
  refine ev_iconst dX9_applies_24 (mi_c rfl) ?_
  obtain ⟨_, g0, hD⟩ := bd hD
  obtain ⟨r4, g, hD⟩ := bd hD
  refine ew_callVv (as := [vi x1, vi 0]) (a := x0) (rest := []) dX9_applies_25 v_X9_ruleAt w_1658 rfl (Nat.le_of_ble_eq_true rfl) rfl rfl g0 (Nat.le_of_ble_eq_true rfl) (Nat.le_of_ble_eq_true rfl) (ct_X9_ruleAt g) ?_
  by_cases c0 : r4 = 0
  · rw [if_pos c0] at hD
    refine ev_tableIn (off := 36) (tgt := 64) dX9_applies_28 (by omega) (by omega) (by rw [c0]; rfl) (by decide) ?_
    refine ev_aload_n dX9_applies_64 3 rfl rfl ?_
    refine ev_iload_n dX9_applies_65 4 rfl rfl ?_
    refine ev_iload_n dX9_applies_66 2 rfl rfl ?_
    refine ev_iload_n dX9_applies_67 1 rfl rfl ?_
    refine ev_iload dX9_applies_68 0 rfl ?_
    refine ev_aload_n dX9_applies_70 3 rfl rfl ?_
    refine ev_iload_n dX9_applies_71 4 rfl rfl ?_
    refine ev_iconst dX9_applies_72 (mi_c rfl) ?_
    obtain ⟨_, g0, hD⟩ := bd hD
    obtain ⟨r5, g, hD⟩ := bd hD
    refine ew_callVv (as := [vi x1, vi 4]) (a := x0) (rest := [vi r3, vi r2, vi r1, vi x1, vr x0]) dX9_applies_73 v_X9_ruleAt w_1658 rfl (Nat.le_of_ble_eq_true rfl) rfl rfl g0 (Nat.le_of_ble_eq_true rfl) (Nat.le_of_ble_eq_true rfl) (ct_X9_ruleAt g) ?_
    obtain ⟨_, g0, hD⟩ := bd hD
    obtain ⟨r6, g, hD⟩ := bd hD
    refine ew_callV0 (as := [vi x1, vi r1, vi r2, vi r3, vi r5]) (a := x0) (rest := []) dX9_applies_76 v_X9_both w_1662 rfl (Nat.le_of_ble_eq_true rfl) rfl rfl g0 (Nat.le_of_ble_eq_true rfl) (Nat.le_of_ble_eq_true rfl) (ct_X9_both g) ?_
    refine ev_goto (tgt := 251) dX9_applies_79 (by decide) ?_
    refine Ev.pick [] rfl ?_
    exact lk_X9_applies_251 hD
  rw [if_neg c0] at hD
  by_cases c1 : r4 = 1
  · rw [if_pos c1] at hD
    refine ev_tableIn (off := 54) (tgt := 82) dX9_applies_28 (by omega) (by omega) (by rw [c1]; rfl) (by decide) ?_
    refine ev_aload_n dX9_applies_82 3 rfl rfl ?_
    refine ev_iload_n dX9_applies_83 4 rfl rfl ?_
    refine ev_iload_n dX9_applies_84 2 rfl rfl ?_
    refine ev_iload_n dX9_applies_85 1 rfl rfl ?_
    refine ev_iconst dX9_applies_86 (mi_c rfl) ?_
    refine ev_iconst dX9_applies_87 (mi_c rfl) ?_
    obtain ⟨_, g0, hD⟩ := bd hD
    obtain ⟨r7, g, hD⟩ := bd hD
    refine ew_callV0 (as := [vi x1, vi r1, vi r2, vi 0, vi 0]) (a := x0) (rest := []) dX9_applies_88 v_X9_both w_1662 rfl (Nat.le_of_ble_eq_true rfl) rfl rfl g0 (Nat.le_of_ble_eq_true rfl) (Nat.le_of_ble_eq_true rfl) (ct_X9_both g) ?_
    refine ev_goto (tgt := 251) dX9_applies_91 (by decide) ?_
    refine Ev.pick [] rfl ?_
    exact lk_X9_applies_251 hD
  rw [if_neg c1] at hD
  by_cases c2 : r4 = 2
  · rw [if_pos c2] at hD
    refine ev_tableIn (off := 66) (tgt := 94) dX9_applies_28 (by omega) (by omega) (by rw [c2]; rfl) (by decide) ?_
    refine ev_aload_n dX9_applies_94 3 rfl rfl ?_
    refine ev_iload_n dX9_applies_95 4 rfl rfl ?_
    refine ev_iload_n dX9_applies_96 2 rfl rfl ?_
    refine ev_iload dX9_applies_97 0 rfl ?_
    refine ev_sp dX9_applies_99 rfl ?_
    obtain ⟨_, g0, hD⟩ := bd hD
    obtain ⟨r8, g, hD⟩ := bd hD
    refine ew_callV0 (as := [vi x1, vi r1, vi r3, vi 999]) (a := x0) (rest := []) dX9_applies_102 v_X9_bounded w_1675 rfl (Nat.le_of_ble_eq_true rfl) rfl rfl g0 (Nat.le_of_ble_eq_true rfl) (Nat.le_of_ble_eq_true rfl) (ct_X9_bounded g) ?_
    refine ev_goto (tgt := 251) dX9_applies_105 (by decide) ?_
    refine Ev.pick [] rfl ?_
    exact lk_X9_applies_251 hD
  rw [if_neg c2] at hD
  by_cases c3 : r4 = 3
  · rw [if_pos c3] at hD
    refine ev_tableIn (off := 80) (tgt := 108) dX9_applies_28 (by omega) (by omega) (by rw [c3]; rfl) (by decide) ?_
    refine ev_aload_n dX9_applies_108 3 rfl rfl ?_
    refine ev_iload_n dX9_applies_109 4 rfl rfl ?_
    refine ev_iload_n dX9_applies_110 2 rfl rfl ?_
    refine ev_iconst dX9_applies_111 (mi_c rfl) ?_
    refine ev_iload dX9_applies_112 0 rfl ?_
    obtain ⟨_, g0, hD⟩ := bd hD
    obtain ⟨r9, g, hD⟩ := bd hD
    refine ew_callV0 (as := [vi x1, vi r1, vi 0, vi r3]) (a := x0) (rest := []) dX9_applies_114 v_X9_bounded w_1675 rfl (Nat.le_of_ble_eq_true rfl) rfl rfl g0 (Nat.le_of_ble_eq_true rfl) (Nat.le_of_ble_eq_true rfl) (ct_X9_bounded g) ?_
    refine ev_goto (tgt := 251) dX9_applies_117 (by decide) ?_
    refine Ev.pick [] rfl ?_
    exact lk_X9_applies_251 hD
  rw [if_neg c3] at hD
  by_cases c4 : r4 = 4
  · rw [if_pos c4] at hD
    refine ev_tableIn (off := 92) (tgt := 120) dX9_applies_28 (by omega) (by omega) (by rw [c4]; rfl) (by decide) ?_
    refine ev_iconst dX9_applies_120 (mi_c rfl) ?_
    refine ev_istore dX9_applies_121 (Nat.le_of_ble_eq_true rfl) rfl ?_
    obtain ⟨r10, g, hD⟩ := bd hD
    refine Ev.pick [4, 5, 3, 2, 1, 0] rfl ?_
    refine lk_X9_applies_123 mFU g ?_
    refine ev_goto (tgt := 251) dX9_applies_181 (by decide) ?_
    exact lk_X9_applies_251 hD
  rw [if_neg c4] at hD
  refine ev_tableOut (tgt := 184) dX9_applies_28 (by omega) (by decide) ?_
  refine ev_iconst dX9_applies_184 (mi_c rfl) ?_
  refine ev_istore dX9_applies_185 (Nat.le_of_ble_eq_true rfl) rfl ?_
  obtain ⟨r11, g, hD⟩ := bd hD
  refine Ev.pick [4, 5, 3, 1, 0] rfl ?_
  refine lk_X9_applies_187 mFU g ?_
  exact lk_X9_applies_251 hD
theorem ct_X9_applies {G : mG} {x0 : Nat} {x1 : Int} {σ : mS} {R : mS} (hD : D_X9_applies x0 x1 σ = some R) : Ct G M_X9_applies [vr x0, vi x1] σ (.inl none) R := ct_of rfl (by decide +kernel) rfl (Nat.le_of_ble_eq_true rfl) rfl (lk_X9_applies hD)
