def D_X2_readReserve_86 (x0 : Nat) (y0 : Int) (y1 : Nat) (σ : mS) : Option mS :=
  (pI σ y1 5 1 y0).bind fun s1 =>
  (tgO s1 x0 2).bind fun _ =>
  (D_X2_readSign x0 59 s1).bind fun r2 =>
  some r2
set_option maxRecDepth 100000 in
set_option maxHeartbeats 4000000 in
theorem lk_X2_readReserve_86 {G : mG} {x0 : Nat} {y0 : Int} {y1 : Nat} {σ : mS} {R : mS} (hD : D_X2_readReserve_86 x0 y0 y1 σ = some R) : Ev G M_X2_readReserve 86 [(0, vr x0)] [vi y0, vr y1] σ (.inl none) R := by
  unfold D_X2_readReserve_86 at hD
  obtain ⟨s1, g, hD⟩ := bd hD
  refine ew_putI 5 1 dX2_readReserve_86 rfl (Nat.le_of_ble_eq_true rfl) w_270 in_X5 tyX5_ok nmX5 (Or.inl rfl) rfl g ?_
  refine ev_aload_n dX2_readReserve_89 0 rfl rfl ?_
  refine ev_bp dX2_readReserve_90 rfl ?_
  obtain ⟨_, g0, hD⟩ := bd hD
  obtain ⟨r2, g, hD⟩ := bd hD
  refine ew_callV0 (as := [vi 59]) (a := x0) (rest := []) dX2_readReserve_92 v_X2_readSign w_880 rfl (Nat.le_of_ble_eq_true rfl) rfl rfl g0 (Nat.le_of_ble_eq_true rfl) (Nat.le_of_ble_eq_true rfl) (ct_X2_readSign g) ?_
  cases hD
  exact ev_ret none dX2_readReserve_95 True.intro
def D_X2_readReserve_72 (x0 : Nat) (x1 : Int) (x3 : Int) (σ : mS) : Option mS :=
  (gR σ x0 2 0).bind fun v1 =>
  if x1 = 0 then
    D_X2_readReserve_86 x0 x3 v1 σ
  else
    D_X2_readReserve_86 x0 (mw (-x3)) v1 σ
set_option maxRecDepth 100000 in
set_option maxHeartbeats 4000000 in
theorem lk_X2_readReserve_72 {G : mG} {x0 : Nat} {x1 : Int} {x3 : Int} {σ : mS} {R : mS} (hD : D_X2_readReserve_72 x0 x1 x3 σ = some R) : Ev G M_X2_readReserve 72 [(0, vr x0), (1, vi x1), (3, vi x3)] [] σ (.inl none) R := by
  unfold D_X2_readReserve_72 at hD
  refine ev_aload_n dX2_readReserve_72 0 rfl rfl ?_
  obtain ⟨v1, g, hD⟩ := bd hD
  refine ew_getR 2 0 dX2_readReserve_73 rfl (Nat.le_of_ble_eq_true rfl) w_339 in_X2 rfl g ?_
  refine ev_iload_n dX2_readReserve_76 1 rfl rfl ?_
  by_cases c : x1 = 0
  · rw [if_pos c] at hD
    refine ev_if_eq_t (tgt := 85) dX2_readReserve_77 (by decide) c ?_
    refine ev_iload_n dX2_readReserve_85 2 rfl rfl ?_
    refine Ev.pick [0] rfl ?_
    exact lk_X2_readReserve_86 hD
  · rw [if_neg c] at hD
    refine ev_if_eq_f 85 dX2_readReserve_77 (by decide) c ?_
    refine ev_iload_n dX2_readReserve_80 2 rfl rfl ?_
    refine ev_ineg dX2_readReserve_81 ?_
    refine ev_goto (tgt := 86) dX2_readReserve_82 (by decide) ?_
    refine Ev.pick [0] rfl ?_
    exact lk_X2_readReserve_86 hD
def D_X2_readReserve_51 (x0 : Nat) (x1 : Int) (x2 : Int) (σ : mS) : Option mS :=
  (tgO σ x0 2).bind fun _ =>
  (D_X2_readNumber x0 0 2147483647 σ).bind fun r1 =>
  if r1.1 ≤ 500 then
    D_X2_readReserve_72 x0 x1 r1.1 r1.2
  else
    (tgO r1.2 x0 2).bind fun _ =>
    (D_X2_fail x0 2 x2 r1.2).bind fun r2 =>
    D_X2_readReserve_72 x0 x1 r1.1 r2
set_option maxRecDepth 100000 in
set_option maxHeartbeats 4000000 in
theorem lk_X2_readReserve_51 {G : mG} {x0 : Nat} {x1 : Int} {x2 : Int} {σ : mS} {R : mS} (hD : D_X2_readReserve_51 x0 x1 x2 σ = some R) : Ev G M_X2_readReserve 51 [(0, vr x0), (1, vi x1), (2, vi x2)] [] σ (.inl none) R := by
  unfold D_X2_readReserve_51 at hD
  refine ev_aload_n dX2_readReserve_51 0 rfl rfl ?_
  refine ev_iconst dX2_readReserve_52 (mi_c rfl) ?_
  refine ev_ldc dX2_readReserve_53 w_927 (mi_c rfl) ?_
  obtain ⟨_, g0, hD⟩ := bd hD
  obtain ⟨r1, g, hD⟩ := bd hD
  refine ew_callVv (as := [vi 0, vi 2147483647]) (a := x0) (rest := []) dX2_readReserve_55 v_X2_readNumber w_884 rfl (Nat.le_of_ble_eq_true rfl) rfl rfl g0 (Nat.le_of_ble_eq_true rfl) (Nat.le_of_ble_eq_true rfl) (ct_X2_readNumber g) ?_
  refine ev_istore_n dX2_readReserve_58 rfl (Nat.le_of_ble_eq_true rfl) rfl ?_
  refine ev_iload_n dX2_readReserve_59 0 rfl rfl ?_
  refine ev_sp dX2_readReserve_60 rfl ?_
  by_cases c : r1.1 ≤ 500
  · rw [if_pos c] at hD
    refine ev_icmp_le_t (tgt := 72) dX2_readReserve_63 (by decide) c ?_
    refine Ev.pick [1, 2, 0] rfl ?_
    exact lk_X2_readReserve_72 hD
  · rw [if_neg c] at hD
    refine ev_icmp_le_f 72 dX2_readReserve_63 (by decide) c ?_
    refine ev_aload_n dX2_readReserve_66 1 rfl rfl ?_
    refine ev_iconst dX2_readReserve_67 (mi_c rfl) ?_
    refine ev_iload_n dX2_readReserve_68 3 rfl rfl ?_
    obtain ⟨_, g0, hD⟩ := bd hD
    obtain ⟨r2, g, hD⟩ := bd hD
    refine ew_callV0 (as := [vi 2, vi x2]) (a := x0) (rest := []) dX2_readReserve_69 v_X2_fail w_804 rfl (Nat.le_of_ble_eq_true rfl) rfl rfl g0 (Nat.le_of_ble_eq_true rfl) (Nat.le_of_ble_eq_true rfl) (ct_X2_fail g) ?_
    refine Ev.pick [1, 2, 0] rfl ?_
    exact lk_X2_readReserve_72 hD
def D_X2_readReserve_35 (x0 : Nat) (y0 : Int) (σ : mS) : Option mS :=
  (gI σ x0 2 5).bind fun v1 =>
  if y0 = 0 then
    D_X2_readReserve_51 x0 y0 v1 σ
  else
    (tgO σ x0 2).bind fun _ =>
    (D_X2_readSign x0 45 σ).bind fun r2 =>
    D_X2_readReserve_51 x0 y0 v1 r2
set_option maxRecDepth 100000 in
set_option maxHeartbeats 4000000 in
theorem lk_X2_readReserve_35 {G : mG} {x0 : Nat} {y0 : Int} {σ : mS} {R : mS} (hD : D_X2_readReserve_35 x0 y0 σ = some R) : Ev G M_X2_readReserve 35 [(0, vr x0)] [vi y0] σ (.inl none) R := by
  unfold D_X2_readReserve_35 at hD
  refine ev_istore_n dX2_readReserve_35 rfl (Nat.le_of_ble_eq_true rfl) rfl ?_
  refine ev_aload_n dX2_readReserve_36 1 rfl rfl ?_
  obtain ⟨v1, g, hD⟩ := bd hD
  refine ew_getI 2 5 dX2_readReserve_37 rfl (Nat.le_of_ble_eq_true rfl) w_347 in_X2 rfl g ?_
  refine ev_istore_n dX2_readReserve_40 rfl (Nat.le_of_ble_eq_true rfl) rfl ?_
  refine ev_iload_n dX2_readReserve_41 1 rfl rfl ?_
  by_cases c : y0 = 0
  · rw [if_pos c] at hD
    refine ev_if_eq_t (tgt := 51) dX2_readReserve_42 (by decide) c ?_
    refine Ev.pick [2, 1, 0] rfl ?_
    exact lk_X2_readReserve_51 hD
  · rw [if_neg c] at hD
    refine ev_if_eq_f 51 dX2_readReserve_42 (by decide) c ?_
    refine ev_aload_n dX2_readReserve_45 2 rfl rfl ?_
    refine ev_bp dX2_readReserve_46 rfl ?_
    obtain ⟨_, g0, hD⟩ := bd hD
    obtain ⟨r2, g, hD⟩ := bd hD
    refine ew_callV0 (as := [vi 45]) (a := x0) (rest := []) dX2_readReserve_48 v_X2_readSign w_880 rfl (Nat.le_of_ble_eq_true rfl) rfl rfl g0 (Nat.le_of_ble_eq_true rfl) (Nat.le_of_ble_eq_true rfl) (ct_X2_readSign g) ?_
    refine Ev.pick [2, 1, 0] rfl ?_
    exact lk_X2_readReserve_51 hD
def D_X2_readReserve_16 (x0 : Nat) (σ : mS) : Option mS :=
  (pB σ x0 2 9 1).bind fun s1 =>
  (tgO s1 x0 2).bind fun _ =>
  (D_X2_peek x0 s1).bind fun r2 =>
  if r2.1 ≠ 45 then
    D_X2_readReserve_35 x0 0 r2.2
  else
    D_X2_readReserve_35 x0 1 r2.2
set_option maxRecDepth 100000 in
set_option maxHeartbeats 4000000 in
theorem lk_X2_readReserve_16 {G : mG} {x0 : Nat} {σ : mS} {R : mS} (hD : D_X2_readReserve_16 x0 σ = some R) : Ev G M_X2_readReserve 16 [(0, vr x0)] [] σ (.inl none) R := by
  unfold D_X2_readReserve_16 at hD
  refine ev_aload_n dX2_readReserve_16 0 rfl rfl ?_
  refine ev_iconst dX2_readReserve_17 (mi_c rfl) ?_
  obtain ⟨s1, g, hD⟩ := bd hD
  refine ew_putB 2 9 dX2_readReserve_18 rfl (Nat.le_of_ble_eq_true rfl) w_351 in_X2 tyX2_ok nmX2 (Or.inl rfl) rfl g ?_
  refine ev_aload_n dX2_readReserve_21 0 rfl rfl ?_
  obtain ⟨_, g0, hD⟩ := bd hD
  obtain ⟨r2, g, hD⟩ := bd hD
  refine ew_callVv (as := []) (a := x0) (rest := []) dX2_readReserve_22 v_X2_peek w_797 rfl (Nat.le_of_ble_eq_true rfl) rfl rfl g0 (Nat.le_of_ble_eq_true rfl) (Nat.le_of_ble_eq_true rfl) (ct_X2_peek g) ?_
  refine ev_bp dX2_readReserve_25 rfl ?_
  by_cases c : r2.1 ≠ 45
  · rw [if_pos c] at hD
    refine ev_icmp_ne_t (tgt := 34) dX2_readReserve_27 (by decide) c ?_
    refine ev_iconst dX2_readReserve_34 (mi_c rfl) ?_
    exact lk_X2_readReserve_35 hD
  · rw [if_neg c] at hD
    refine ev_icmp_ne_f 34 dX2_readReserve_27 (by decide) c ?_
    refine ev_iconst dX2_readReserve_30 (mi_c rfl) ?_
    refine ev_goto (tgt := 35) dX2_readReserve_31 (by decide) ?_
    exact lk_X2_readReserve_35 hD
def D_X2_readReserve (x0 : Nat) (σ : mS) : Option mS :=
  (gI σ x0 2 9).bind fun v1 =>
  if v1 = 0 then
    D_X2_readReserve_16 x0 σ
  else
    (gI σ x0 2 6).bind fun v2 =>
    (tgO σ x0 2).bind fun _ =>
    (D_X2_fail x0 3 v2 σ).bind fun r3 =>
    D_X2_readReserve_16 x0 r3
set_option maxRecDepth 100000 in
set_option maxHeartbeats 4000000 in
theorem lk_X2_readReserve {G : mG} {x0 : Nat} {σ : mS} {R : mS} (hD : D_X2_readReserve x0 σ = some R) : Ev G M_X2_readReserve 0 [(0, vr x0)] [] σ (.inl none) R := by
  unfold D_X2_readReserve at hD
  refine ev_aload_n dX2_readReserve_0 0 rfl rfl ?_
  obtain ⟨v1, g, hD⟩ := bd hD
  refine ew_getI 2 9 dX2_readReserve_1 rfl (Nat.le_of_ble_eq_true rfl) w_351 in_X2 rfl g ?_
  by_cases c : v1 = 0
  · rw [if_pos c] at hD
    refine ev_if_eq_t (tgt := 16) dX2_readReserve_4 (by decide) c ?_
    exact lk_X2_readReserve_16 hD
  · rw [if_neg c] at hD
    refine ev_if_eq_f 16 dX2_readReserve_4 (by decide) c ?_
    refine ev_aload_n dX2_readReserve_7 0 rfl rfl ?_
    refine ev_iconst dX2_readReserve_8 (mi_c rfl) ?_
    refine ev_aload_n dX2_readReserve_9 0 rfl rfl ?_
    obtain ⟨v2, g, hD⟩ := bd hD
    refine ew_getI 2 6 dX2_readReserve_10 rfl (Nat.le_of_ble_eq_true rfl) w_348 in_X2 rfl g ?_
    obtain ⟨_, g0, hD⟩ := bd hD
    obtain ⟨r3, g, hD⟩ := bd hD
    refine ew_callV0 (as := [vi 3, vi v2]) (a := x0) (rest := []) dX2_readReserve_13 v_X2_fail w_804 rfl (Nat.le_of_ble_eq_true rfl) rfl rfl g0 (Nat.le_of_ble_eq_true rfl) (Nat.le_of_ble_eq_true rfl) (ct_X2_fail g) ?_
    exact lk_X2_readReserve_16 hD
theorem ct_X2_readReserve {G : mG} {x0 : Nat} {σ : mS} {R : mS} (hD : D_X2_readReserve x0 σ = some R) : Ct G M_X2_readReserve [vr x0] σ (.inl none) R := ct_of rfl (by decide +kernel) rfl (Nat.le_of_ble_eq_true rfl) rfl (lk_X2_readReserve hD)
def D_X2_known_31 (x1 : Int) (σ : mS) : Option (Int × mS) :=
  some (x1, σ)
set_option maxRecDepth 100000 in
set_option maxHeartbeats 4000000 in
theorem lk_X2_known_31 {G : mG} {x1 : Int} {σ : mS} {R : (Int × mS)} (hD : D_X2_known_31 x1 σ = some R) : Ev G M_X2_known 31 [(1, vi x1)] [] σ (.inl (some (vi R.1))) R.2 := by
  unfold D_X2_known_31 at hD
  refine ev_iload_n dX2_known_31 0 rfl rfl ?_
  cases hD
  exact ev_ret (some (vi _)) dX2_known_32 True.intro
def D_X2_known (x0 : Nat) (x1 : Int) (x2 : Int) (σ : mS) : Option (Int × mS) :=
  if x1 ≠ ((-1)) then
    if x1 ≠ x2 then
      D_X2_known_31 x1 σ
    else
      (gI σ x0 2 6).bind fun v1 =>
      (tgO σ x0 2).bind fun _ =>
      (D_X2_fail x0 4 v1 σ).bind fun r2 =>
      D_X2_known_31 x1 r2
  else
    (gI σ x0 2 6).bind fun v3 =>
    (tgO σ x0 2).bind fun _ =>
    (D_X2_fail x0 5 v3 σ).bind fun r4 =>
    D_X2_known_31 x1 r4
set_option maxRecDepth 100000 in
set_option maxHeartbeats 4000000 in
theorem lk_X2_known {G : mG} {x0 : Nat} {x1 : Int} {x2 : Int} {σ : mS} {R : (Int × mS)} (hD : D_X2_known x0 x1 x2 σ = some R) : Ev G M_X2_known 0 [(0, vr x0), (1, vi x1), (2, vi x2)] [] σ (.inl (some (vi R.1))) R.2 := by
  unfold D_X2_known at hD
  refine ev_iload_n dX2_known_0 1 rfl rfl ?_
  refine ev_iconst dX2_known_1 (mi_c rfl) ?_
  by_cases c : x1 ≠ ((-1))
  · rw [if_pos c] at hD
    refine ev_icmp_ne_t (tgt := 17) dX2_known_2 (by decide) c ?_
    refine ev_iload_n dX2_known_17 1 rfl rfl ?_
    refine ev_iload_n dX2_known_18 2 rfl rfl ?_
    by_cases c : x1 ≠ x2
    · rw [if_pos c] at hD
      refine ev_icmp_ne_t (tgt := 31) dX2_known_19 (by decide) c ?_
      refine Ev.pick [1] rfl ?_
      exact lk_X2_known_31 hD
    · rw [if_neg c] at hD
      refine ev_icmp_ne_f 31 dX2_known_19 (by decide) c ?_
      refine ev_aload_n dX2_known_22 0 rfl rfl ?_
      refine ev_iconst dX2_known_23 (mi_c rfl) ?_
      refine ev_aload_n dX2_known_24 0 rfl rfl ?_
      obtain ⟨v1, g, hD⟩ := bd hD
      refine ew_getI 2 6 dX2_known_25 rfl (Nat.le_of_ble_eq_true rfl) w_348 in_X2 rfl g ?_
      obtain ⟨_, g0, hD⟩ := bd hD
      obtain ⟨r2, g, hD⟩ := bd hD
      refine ew_callV0 (as := [vi 4, vi v1]) (a := x0) (rest := []) dX2_known_28 v_X2_fail w_804 rfl (Nat.le_of_ble_eq_true rfl) rfl rfl g0 (Nat.le_of_ble_eq_true rfl) (Nat.le_of_ble_eq_true rfl) (ct_X2_fail g) ?_
      refine Ev.pick [1] rfl ?_
      exact lk_X2_known_31 hD
  · rw [if_neg c] at hD
    refine ev_icmp_ne_f 17 dX2_known_2 (by decide) c ?_
    refine ev_aload_n dX2_known_5 0 rfl rfl ?_
    refine ev_iconst dX2_known_6 (mi_c rfl) ?_
    refine ev_aload_n dX2_known_7 0 rfl rfl ?_
    obtain ⟨v3, g, hD⟩ := bd hD
    refine ew_getI 2 6 dX2_known_8 rfl (Nat.le_of_ble_eq_true rfl) w_348 in_X2 rfl g ?_
    obtain ⟨_, g0, hD⟩ := bd hD
    obtain ⟨r4, g, hD⟩ := bd hD
    refine ew_callV0 (as := [vi 5, vi v3]) (a := x0) (rest := []) dX2_known_11 v_X2_fail w_804 rfl (Nat.le_of_ble_eq_true rfl) rfl rfl g0 (Nat.le_of_ble_eq_true rfl) (Nat.le_of_ble_eq_true rfl) (ct_X2_fail g) ?_
    refine ev_goto (tgt := 31) dX2_known_14 (by decide) ?_
    refine Ev.pick [1] rfl ?_
    exact lk_X2_known_31 hD
theorem ct_X2_known {G : mG} {x0 : Nat} {x1 : Int} {x2 : Int} {σ : mS} {R : (Int × mS)} (hD : D_X2_known x0 x1 x2 σ = some R) : Ct G M_X2_known [vr x0, vi x1, vi x2] σ (.inl (some (vi R.1))) R.2 := ct_of rfl (by decide +kernel) rfl (Nat.le_of_ble_eq_true rfl) rfl (lk_X2_known hD)
def D_X2_readPhaseName (x0 : Nat) (x1 : Int) (σ : mS) : Option (Int × mS) :=
  (tgO σ x0 2).bind fun _ =>
  (D_X2_readName x0 σ).bind fun r1 =>
  (gR r1.2 x0 2 11).bind fun v2 =>
  (gR r1.2 x0 2 0).bind fun v3 =>
  (gI r1.2 v3 5 4).bind fun v4 =>
  (D_X2_numberOf r1.1 v2 v4 r1.2).bind fun r5 =>
  (tgO r1.2 x0 2).bind fun _ =>
  (D_X2_known x0 r5 x1 r1.2).bind fun r6 =>
  some (r6.1, r6.2)
set_option maxRecDepth 100000 in
set_option maxHeartbeats 4000000 in
theorem lk_X2_readPhaseName {G : mG} {x0 : Nat} {x1 : Int} {σ : mS} {R : (Int × mS)} (hD : D_X2_readPhaseName x0 x1 σ = some R) : Ev G M_X2_readPhaseName 0 [(0, vr x0), (1, vi x1)] [] σ (.inl (some (vi R.1))) R.2 := by
  unfold D_X2_readPhaseName at hD
  refine ev_aload_n dX2_readPhaseName_0 0 rfl rfl ?_
  refine ev_aload_n dX2_readPhaseName_1 0 rfl rfl ?_
  obtain ⟨_, g0, hD⟩ := bd hD
  obtain ⟨r1, g, hD⟩ := bd hD
  refine ew_callVv (as := []) (a := x0) (rest := [vr x0]) dX2_readPhaseName_2 v_X2_readName w_900 rfl (Nat.le_of_ble_eq_true rfl) rfl rfl g0 (Nat.le_of_ble_eq_true rfl) (Nat.le_of_ble_eq_true rfl) (ct_X2_readName g) ?_
  refine ev_aload_n dX2_readPhaseName_5 0 rfl rfl ?_
  obtain ⟨v2, g, hD⟩ := bd hD
  refine ew_getR 2 11 dX2_readPhaseName_6 rfl (Nat.le_of_ble_eq_true rfl) w_353 in_X2 rfl g ?_
  refine ev_aload_n dX2_readPhaseName_9 0 rfl rfl ?_
  obtain ⟨v3, g, hD⟩ := bd hD
  refine ew_getR 2 0 dX2_readPhaseName_10 rfl (Nat.le_of_ble_eq_true rfl) w_339 in_X2 rfl g ?_
  obtain ⟨v4, g, hD⟩ := bd hD
  refine ew_getI 5 4 dX2_readPhaseName_13 rfl (Nat.le_of_ble_eq_true rfl) w_281 in_X5 rfl g ?_
  obtain ⟨r5, g, hD⟩ := bd hD
  refine ew_callSv (as := [vi r1.1, vr v2, vi v4]) (rest := [vr x0]) dX2_readPhaseName_16 v_X2_numberOf w_904 rfl (Nat.le_of_ble_eq_true rfl) (Nat.le_of_ble_eq_true rfl) (Nat.le_of_ble_eq_true rfl) (ct_X2_numberOf g) ?_
  refine ev_iload_n dX2_readPhaseName_19 1 rfl rfl ?_
  obtain ⟨_, g0, hD⟩ := bd hD
  obtain ⟨r6, g, hD⟩ := bd hD
  refine ew_callVv (as := [vi r5, vi x1]) (a := x0) (rest := []) dX2_readPhaseName_20 v_X2_known w_936 rfl (Nat.le_of_ble_eq_true rfl) rfl rfl g0 (Nat.le_of_ble_eq_true rfl) (Nat.le_of_ble_eq_true rfl) (ct_X2_known g) ?_
  cases hD
  exact ev_ret (some (vi _)) dX2_readPhaseName_23 True.intro
theorem ct_X2_readPhaseName {G : mG} {x0 : Nat} {x1 : Int} {σ : mS} {R : (Int × mS)} (hD : D_X2_readPhaseName x0 x1 σ = some R) : Ct G M_X2_readPhaseName [vr x0, vi x1] σ (.inl (some (vi R.1))) R.2 := ct_of rfl (by decide +kernel) rfl (Nat.le_of_ble_eq_true rfl) rfl (lk_X2_readPhaseName hD)
def D_X2_readSampleName (x0 : Nat) (x1 : Int) (σ : mS) : Option (Int × mS) :=
  (tgO σ x0 2).bind fun _ =>
  (D_X2_readName x0 σ).bind fun r1 =>
  (gR r1.2 x0 2 10).bind fun v2 =>
  (gR r1.2 x0 2 0).bind fun v3 =>
  (gI r1.2 v3 5 3).bind fun v4 =>
  (D_X2_numberOf r1.1 v2 v4 r1.2).bind fun r5 =>
  (tgO r1.2 x0 2).bind fun _ =>
  (D_X2_known x0 r5 x1 r1.2).bind fun r6 =>
  some (r6.1, r6.2)
set_option maxRecDepth 100000 in
set_option maxHeartbeats 4000000 in
theorem lk_X2_readSampleName {G : mG} {x0 : Nat} {x1 : Int} {σ : mS} {R : (Int × mS)} (hD : D_X2_readSampleName x0 x1 σ = some R) : Ev G M_X2_readSampleName 0 [(0, vr x0), (1, vi x1)] [] σ (.inl (some (vi R.1))) R.2 := by
  unfold D_X2_readSampleName at hD
  refine ev_aload_n dX2_readSampleName_0 0 rfl rfl ?_
  refine ev_aload_n dX2_readSampleName_1 0 rfl rfl ?_
  obtain ⟨_, g0, hD⟩ := bd hD
  obtain ⟨r1, g, hD⟩ := bd hD
  refine ew_callVv (as := []) (a := x0) (rest := [vr x0]) dX2_readSampleName_2 v_X2_readName w_900 rfl (Nat.le_of_ble_eq_true rfl) rfl rfl g0 (Nat.le_of_ble_eq_true rfl) (Nat.le_of_ble_eq_true rfl) (ct_X2_readName g) ?_
  refine ev_aload_n dX2_readSampleName_5 0 rfl rfl ?_
  obtain ⟨v2, g, hD⟩ := bd hD
  refine ew_getR 2 10 dX2_readSampleName_6 rfl (Nat.le_of_ble_eq_true rfl) w_352 in_X2 rfl g ?_
  refine ev_aload_n dX2_readSampleName_9 0 rfl rfl ?_
  obtain ⟨v3, g, hD⟩ := bd hD
  refine ew_getR 2 0 dX2_readSampleName_10 rfl (Nat.le_of_ble_eq_true rfl) w_339 in_X2 rfl g ?_
  obtain ⟨v4, g, hD⟩ := bd hD
  refine ew_getI 5 3 dX2_readSampleName_13 rfl (Nat.le_of_ble_eq_true rfl) w_279 in_X5 rfl g ?_
  obtain ⟨r5, g, hD⟩ := bd hD
  refine ew_callSv (as := [vi r1.1, vr v2, vi v4]) (rest := [vr x0]) dX2_readSampleName_16 v_X2_numberOf w_904 rfl (Nat.le_of_ble_eq_true rfl) (Nat.le_of_ble_eq_true rfl) (Nat.le_of_ble_eq_true rfl) (ct_X2_numberOf g) ?_
  refine ev_iload_n dX2_readSampleName_19 1 rfl rfl ?_
  obtain ⟨_, g0, hD⟩ := bd hD
  obtain ⟨r6, g, hD⟩ := bd hD
  refine ew_callVv (as := [vi r5, vi x1]) (a := x0) (rest := []) dX2_readSampleName_20 v_X2_known w_936 rfl (Nat.le_of_ble_eq_true rfl) rfl rfl g0 (Nat.le_of_ble_eq_true rfl) (Nat.le_of_ble_eq_true rfl) (ct_X2_known g) ?_
  cases hD
  exact ev_ret (some (vi _)) dX2_readSampleName_23 True.intro
theorem ct_X2_readSampleName {G : mG} {x0 : Nat} {x1 : Int} {σ : mS} {R : (Int × mS)} (hD : D_X2_readSampleName x0 x1 σ = some R) : Ct G M_X2_readSampleName [vr x0, vi x1] σ (.inl (some (vi R.1))) R.2 := ct_of rfl (by decide +kernel) rfl (Nat.le_of_ble_eq_true rfl) rfl (lk_X2_readSampleName hD)
