def D_J13_bitCount_95d88 (x0 : BitVec 64) (σ : mS) : Option Int :=
  some (mand (ml2i ((((((((x0 - ((mlushr x0 1) &&& (6148914691236517205 : BitVec 64))) &&& (3689348814741910323 : BitVec 64)) + ((mlushr (x0 - ((mlushr x0 1) &&& (6148914691236517205 : BitVec 64))) 2) &&& (3689348814741910323 : BitVec 64))) + (mlushr (((x0 - ((mlushr x0 1) &&& (6148914691236517205 : BitVec 64))) &&& (3689348814741910323 : BitVec 64)) + ((mlushr (x0 - ((mlushr x0 1) &&& (6148914691236517205 : BitVec 64))) 2) &&& (3689348814741910323 : BitVec 64))) 4)) &&& (1085102592571150095 : BitVec 64)) + (mlushr (((((x0 - ((mlushr x0 1) &&& (6148914691236517205 : BitVec 64))) &&& (3689348814741910323 : BitVec 64)) + ((mlushr (x0 - ((mlushr x0 1) &&& (6148914691236517205 : BitVec 64))) 2) &&& (3689348814741910323 : BitVec 64))) + (mlushr (((x0 - ((mlushr x0 1) &&& (6148914691236517205 : BitVec 64))) &&& (3689348814741910323 : BitVec 64)) + ((mlushr (x0 - ((mlushr x0 1) &&& (6148914691236517205 : BitVec 64))) 2) &&& (3689348814741910323 : BitVec 64))) 4)) &&& (1085102592571150095 : BitVec 64)) 8)) + (mlushr ((((((x0 - ((mlushr x0 1) &&& (6148914691236517205 : BitVec 64))) &&& (3689348814741910323 : BitVec 64)) + ((mlushr (x0 - ((mlushr x0 1) &&& (6148914691236517205 : BitVec 64))) 2) &&& (3689348814741910323 : BitVec 64))) + (mlushr (((x0 - ((mlushr x0 1) &&& (6148914691236517205 : BitVec 64))) &&& (3689348814741910323 : BitVec 64)) + ((mlushr (x0 - ((mlushr x0 1) &&& (6148914691236517205 : BitVec 64))) 2) &&& (3689348814741910323 : BitVec 64))) 4)) &&& (1085102592571150095 : BitVec 64)) + (mlushr (((((x0 - ((mlushr x0 1) &&& (6148914691236517205 : BitVec 64))) &&& (3689348814741910323 : BitVec 64)) + ((mlushr (x0 - ((mlushr x0 1) &&& (6148914691236517205 : BitVec 64))) 2) &&& (3689348814741910323 : BitVec 64))) + (mlushr (((x0 - ((mlushr x0 1) &&& (6148914691236517205 : BitVec 64))) &&& (3689348814741910323 : BitVec 64)) + ((mlushr (x0 - ((mlushr x0 1) &&& (6148914691236517205 : BitVec 64))) 2) &&& (3689348814741910323 : BitVec 64))) 4)) &&& (1085102592571150095 : BitVec 64)) 8)) 16)) + (mlushr (((((((x0 - ((mlushr x0 1) &&& (6148914691236517205 : BitVec 64))) &&& (3689348814741910323 : BitVec 64)) + ((mlushr (x0 - ((mlushr x0 1) &&& (6148914691236517205 : BitVec 64))) 2) &&& (3689348814741910323 : BitVec 64))) + (mlushr (((x0 - ((mlushr x0 1) &&& (6148914691236517205 : BitVec 64))) &&& (3689348814741910323 : BitVec 64)) + ((mlushr (x0 - ((mlushr x0 1) &&& (6148914691236517205 : BitVec 64))) 2) &&& (3689348814741910323 : BitVec 64))) 4)) &&& (1085102592571150095 : BitVec 64)) + (mlushr (((((x0 - ((mlushr x0 1) &&& (6148914691236517205 : BitVec 64))) &&& (3689348814741910323 : BitVec 64)) + ((mlushr (x0 - ((mlushr x0 1) &&& (6148914691236517205 : BitVec 64))) 2) &&& (3689348814741910323 : BitVec 64))) + (mlushr (((x0 - ((mlushr x0 1) &&& (6148914691236517205 : BitVec 64))) &&& (3689348814741910323 : BitVec 64)) + ((mlushr (x0 - ((mlushr x0 1) &&& (6148914691236517205 : BitVec 64))) 2) &&& (3689348814741910323 : BitVec 64))) 4)) &&& (1085102592571150095 : BitVec 64)) 8)) + (mlushr ((((((x0 - ((mlushr x0 1) &&& (6148914691236517205 : BitVec 64))) &&& (3689348814741910323 : BitVec 64)) + ((mlushr (x0 - ((mlushr x0 1) &&& (6148914691236517205 : BitVec 64))) 2) &&& (3689348814741910323 : BitVec 64))) + (mlushr (((x0 - ((mlushr x0 1) &&& (6148914691236517205 : BitVec 64))) &&& (3689348814741910323 : BitVec 64)) + ((mlushr (x0 - ((mlushr x0 1) &&& (6148914691236517205 : BitVec 64))) 2) &&& (3689348814741910323 : BitVec 64))) 4)) &&& (1085102592571150095 : BitVec 64)) + (mlushr (((((x0 - ((mlushr x0 1) &&& (6148914691236517205 : BitVec 64))) &&& (3689348814741910323 : BitVec 64)) + ((mlushr (x0 - ((mlushr x0 1) &&& (6148914691236517205 : BitVec 64))) 2) &&& (3689348814741910323 : BitVec 64))) + (mlushr (((x0 - ((mlushr x0 1) &&& (6148914691236517205 : BitVec 64))) &&& (3689348814741910323 : BitVec 64)) + ((mlushr (x0 - ((mlushr x0 1) &&& (6148914691236517205 : BitVec 64))) 2) &&& (3689348814741910323 : BitVec 64))) 4)) &&& (1085102592571150095 : BitVec 64)) 8)) 16)) 32))) 127)
set_option maxRecDepth 100000 in
set_option maxHeartbeats 4000000 in
theorem lk_J13_bitCount_95d88 {G : mG} {x0 : BitVec 64} {σ : mS} {R : Int} (hD : D_J13_bitCount_95d88 x0 σ = some R) : Ev G M_J13_bitCount_95d88 0 [(0, vl x0)] [] σ (.inl (some (vi R))) σ := by
  unfold D_J13_bitCount_95d88 at hD
  refine ev_lload_n dJ13_bitCount_95d88_0 0 rfl rfl ?_
  refine ev_lload_n dJ13_bitCount_95d88_1 0 rfl rfl ?_
  refine ev_iconst dJ13_bitCount_95d88_2 (mi_c rfl) ?_
  refine ev_lushr dJ13_bitCount_95d88_3 ?_
  refine ev_ldc2 dJ13_bitCount_95d88_4 w_533 ?_
  refine ev_land dJ13_bitCount_95d88_7 ?_
  refine ev_lsub dJ13_bitCount_95d88_8 ?_
  refine ev_lstore_n dJ13_bitCount_95d88_9 rfl (Nat.le_of_ble_eq_true rfl) rfl ?_
  refine ev_lload_n dJ13_bitCount_95d88_10 0 rfl rfl ?_
  refine ev_ldc2 dJ13_bitCount_95d88_11 w_534 ?_
  refine ev_land dJ13_bitCount_95d88_14 ?_
  refine ev_lload_n dJ13_bitCount_95d88_15 0 rfl rfl ?_
  refine ev_iconst dJ13_bitCount_95d88_16 (mi_c rfl) ?_
  refine ev_lushr dJ13_bitCount_95d88_17 ?_
  refine ev_ldc2 dJ13_bitCount_95d88_18 w_534 ?_
  refine ev_land dJ13_bitCount_95d88_21 ?_
  refine ev_ladd dJ13_bitCount_95d88_22 ?_
  refine ev_lstore_n dJ13_bitCount_95d88_23 rfl (Nat.le_of_ble_eq_true rfl) rfl ?_
  refine ev_lload_n dJ13_bitCount_95d88_24 0 rfl rfl ?_
  refine ev_lload_n dJ13_bitCount_95d88_25 0 rfl rfl ?_
  refine ev_iconst dJ13_bitCount_95d88_26 (mi_c rfl) ?_
  refine ev_lushr dJ13_bitCount_95d88_27 ?_
  refine ev_ladd dJ13_bitCount_95d88_28 ?_
  refine ev_ldc2 dJ13_bitCount_95d88_29 w_535 ?_
  refine ev_land dJ13_bitCount_95d88_32 ?_
  refine ev_lstore_n dJ13_bitCount_95d88_33 rfl (Nat.le_of_ble_eq_true rfl) rfl ?_
  refine ev_lload_n dJ13_bitCount_95d88_34 0 rfl rfl ?_
  refine ev_lload_n dJ13_bitCount_95d88_35 0 rfl rfl ?_
  refine ev_bp dJ13_bitCount_95d88_36 rfl ?_
  refine ev_lushr dJ13_bitCount_95d88_38 ?_
  refine ev_ladd dJ13_bitCount_95d88_39 ?_
  refine ev_lstore_n dJ13_bitCount_95d88_40 rfl (Nat.le_of_ble_eq_true rfl) rfl ?_
  refine ev_lload_n dJ13_bitCount_95d88_41 0 rfl rfl ?_
  refine ev_lload_n dJ13_bitCount_95d88_42 0 rfl rfl ?_
  refine ev_bp dJ13_bitCount_95d88_43 rfl ?_
  refine ev_lushr dJ13_bitCount_95d88_45 ?_
  refine ev_ladd dJ13_bitCount_95d88_46 ?_
  refine ev_lstore_n dJ13_bitCount_95d88_47 rfl (Nat.le_of_ble_eq_true rfl) rfl ?_
  refine ev_lload_n dJ13_bitCount_95d88_48 0 rfl rfl ?_
  refine ev_lload_n dJ13_bitCount_95d88_49 0 rfl rfl ?_
  refine ev_bp dJ13_bitCount_95d88_50 rfl ?_
  refine ev_lushr dJ13_bitCount_95d88_52 ?_
  refine ev_ladd dJ13_bitCount_95d88_53 ?_
  refine ev_lstore_n dJ13_bitCount_95d88_54 rfl (Nat.le_of_ble_eq_true rfl) rfl ?_
  refine ev_lload_n dJ13_bitCount_95d88_55 0 rfl rfl ?_
  refine ev_l2i dJ13_bitCount_95d88_56 ?_
  refine ev_bp dJ13_bitCount_95d88_57 rfl ?_
  refine ev_iand dJ13_bitCount_95d88_59 ?_
  cases hD
  exact ev_ret (some (vi _)) dJ13_bitCount_95d88_60 True.intro
theorem ct_J13_bitCount_95d88 {G : mG} {x0 : BitVec 64} {σ : mS} {R : Int} (hD : D_J13_bitCount_95d88 x0 σ = some R) : Ct G M_J13_bitCount_95d88 [vl x0] σ (.inl (some (vi R))) σ := ct_of rfl (by decide +kernel) rfl (Nat.le_of_ble_eq_true rfl) rfl (lk_J13_bitCount_95d88 hD)
def D_J6_numberOfTrailingZeros_0f7a4_74 (x0 : Int) (x1 : Int) (σ : mS) : Option Int :=
  some (mw (x1 + (mushr x0 1)))
set_option maxRecDepth 100000 in
set_option maxHeartbeats 4000000 in
theorem lk_J6_numberOfTrailingZeros_0f7a4_74 {G : mG} {x0 : Int} {x1 : Int} {σ : mS} {R : Int} (hD : D_J6_numberOfTrailingZeros_0f7a4_74 x0 x1 σ = some R) : Ev G M_J6_numberOfTrailingZeros_0f7a4 74 [(0, vi x0), (1, vi x1)] [] σ (.inl (some (vi R))) σ := by
  unfold D_J6_numberOfTrailingZeros_0f7a4_74 at hD
  refine ev_iload_n dJ6_numberOfTrailingZeros_0f7a4_74 1 rfl rfl ?_
  refine ev_iload_n dJ6_numberOfTrailingZeros_0f7a4_75 0 rfl rfl ?_
  refine ev_iconst dJ6_numberOfTrailingZeros_0f7a4_76 (mi_c rfl) ?_
  refine ev_iushr dJ6_numberOfTrailingZeros_0f7a4_77 ?_
  refine ev_iadd dJ6_numberOfTrailingZeros_0f7a4_78 ?_
  cases hD
  exact ev_ret (some (vi _)) dJ6_numberOfTrailingZeros_0f7a4_79 True.intro
def D_J6_numberOfTrailingZeros_0f7a4_62 (x0 : Int) (x1 : Int) (σ : mS) : Option Int :=
  if x0 ≤ 4 then
    D_J6_numberOfTrailingZeros_0f7a4_74 x0 x1 σ
  else
    D_J6_numberOfTrailingZeros_0f7a4_74 (mushr x0 2) (mw (x1 + 2)) σ
set_option maxRecDepth 100000 in
set_option maxHeartbeats 4000000 in
theorem lk_J6_numberOfTrailingZeros_0f7a4_62 {G : mG} {x0 : Int} {x1 : Int} {σ : mS} {R : Int} (hD : D_J6_numberOfTrailingZeros_0f7a4_62 x0 x1 σ = some R) : Ev G M_J6_numberOfTrailingZeros_0f7a4 62 [(0, vi x0), (1, vi x1)] [] σ (.inl (some (vi R))) σ := by
  unfold D_J6_numberOfTrailingZeros_0f7a4_62 at hD
  refine ev_iload_n dJ6_numberOfTrailingZeros_0f7a4_62 0 rfl rfl ?_
  refine ev_iconst dJ6_numberOfTrailingZeros_0f7a4_63 (mi_c rfl) ?_
  by_cases c : x0 ≤ 4
  · rw [if_pos c] at hD
    refine ev_icmp_le_t (tgt := 74) dJ6_numberOfTrailingZeros_0f7a4_64 (by decide) c ?_
    exact lk_J6_numberOfTrailingZeros_0f7a4_74 hD
  · rw [if_neg c] at hD
    refine ev_icmp_le_f 74 dJ6_numberOfTrailingZeros_0f7a4_64 (by decide) c ?_
    refine ev_iinc dJ6_numberOfTrailingZeros_0f7a4_67 1 rfl (Nat.le_of_ble_eq_true rfl) rfl ?_
    refine ev_iload_n dJ6_numberOfTrailingZeros_0f7a4_70 1 rfl rfl ?_
    refine ev_iconst dJ6_numberOfTrailingZeros_0f7a4_71 (mi_c rfl) ?_
    refine ev_iushr dJ6_numberOfTrailingZeros_0f7a4_72 ?_
    refine ev_istore_n dJ6_numberOfTrailingZeros_0f7a4_73 rfl (Nat.le_of_ble_eq_true rfl) rfl ?_
    exact lk_J6_numberOfTrailingZeros_0f7a4_74 hD
def D_J6_numberOfTrailingZeros_0f7a4_49 (x0 : Int) (x1 : Int) (σ : mS) : Option Int :=
  if x0 ≤ 16 then
    D_J6_numberOfTrailingZeros_0f7a4_62 x0 x1 σ
  else
    D_J6_numberOfTrailingZeros_0f7a4_62 (mushr x0 4) (mw (x1 + 4)) σ
set_option maxRecDepth 100000 in
set_option maxHeartbeats 4000000 in
theorem lk_J6_numberOfTrailingZeros_0f7a4_49 {G : mG} {x0 : Int} {x1 : Int} {σ : mS} {R : Int} (hD : D_J6_numberOfTrailingZeros_0f7a4_49 x0 x1 σ = some R) : Ev G M_J6_numberOfTrailingZeros_0f7a4 49 [(0, vi x0), (1, vi x1)] [] σ (.inl (some (vi R))) σ := by
  unfold D_J6_numberOfTrailingZeros_0f7a4_49 at hD
  refine ev_iload_n dJ6_numberOfTrailingZeros_0f7a4_49 0 rfl rfl ?_
  refine ev_bp dJ6_numberOfTrailingZeros_0f7a4_50 rfl ?_
  by_cases c : x0 ≤ 16
  · rw [if_pos c] at hD
    refine ev_icmp_le_t (tgt := 62) dJ6_numberOfTrailingZeros_0f7a4_52 (by decide) c ?_
    exact lk_J6_numberOfTrailingZeros_0f7a4_62 hD
  · rw [if_neg c] at hD
    refine ev_icmp_le_f 62 dJ6_numberOfTrailingZeros_0f7a4_52 (by decide) c ?_
    refine ev_iinc dJ6_numberOfTrailingZeros_0f7a4_55 1 rfl (Nat.le_of_ble_eq_true rfl) rfl ?_
    refine ev_iload_n dJ6_numberOfTrailingZeros_0f7a4_58 1 rfl rfl ?_
    refine ev_iconst dJ6_numberOfTrailingZeros_0f7a4_59 (mi_c rfl) ?_
    refine ev_iushr dJ6_numberOfTrailingZeros_0f7a4_60 ?_
    refine ev_istore_n dJ6_numberOfTrailingZeros_0f7a4_61 rfl (Nat.le_of_ble_eq_true rfl) rfl ?_
    exact lk_J6_numberOfTrailingZeros_0f7a4_62 hD
def D_J6_numberOfTrailingZeros_0f7a4_34 (x0 : Int) (x1 : Int) (σ : mS) : Option Int :=
  if x0 ≤ 256 then
    D_J6_numberOfTrailingZeros_0f7a4_49 x0 x1 σ
  else
    D_J6_numberOfTrailingZeros_0f7a4_49 (mushr x0 8) (mw (x1 + 8)) σ
set_option maxRecDepth 100000 in
set_option maxHeartbeats 4000000 in
theorem lk_J6_numberOfTrailingZeros_0f7a4_34 {G : mG} {x0 : Int} {x1 : Int} {σ : mS} {R : Int} (hD : D_J6_numberOfTrailingZeros_0f7a4_34 x0 x1 σ = some R) : Ev G M_J6_numberOfTrailingZeros_0f7a4 34 [(0, vi x0), (1, vi x1)] [] σ (.inl (some (vi R))) σ := by
  unfold D_J6_numberOfTrailingZeros_0f7a4_34 at hD
  refine ev_iload_n dJ6_numberOfTrailingZeros_0f7a4_34 0 rfl rfl ?_
  refine ev_sp dJ6_numberOfTrailingZeros_0f7a4_35 rfl ?_
  by_cases c : x0 ≤ 256
  · rw [if_pos c] at hD
    refine ev_icmp_le_t (tgt := 49) dJ6_numberOfTrailingZeros_0f7a4_38 (by decide) c ?_
    exact lk_J6_numberOfTrailingZeros_0f7a4_49 hD
  · rw [if_neg c] at hD
    refine ev_icmp_le_f 49 dJ6_numberOfTrailingZeros_0f7a4_38 (by decide) c ?_
    refine ev_iinc dJ6_numberOfTrailingZeros_0f7a4_41 1 rfl (Nat.le_of_ble_eq_true rfl) rfl ?_
    refine ev_iload_n dJ6_numberOfTrailingZeros_0f7a4_44 1 rfl rfl ?_
    refine ev_bp dJ6_numberOfTrailingZeros_0f7a4_45 rfl ?_
    refine ev_iushr dJ6_numberOfTrailingZeros_0f7a4_47 ?_
    refine ev_istore_n dJ6_numberOfTrailingZeros_0f7a4_48 rfl (Nat.le_of_ble_eq_true rfl) rfl ?_
    exact lk_J6_numberOfTrailingZeros_0f7a4_49 hD
def D_J6_numberOfTrailingZeros_0f7a4 (x0 : Int) (σ : mS) : Option Int :=
  if 0 < (mand (mxor x0 ((-1))) (mw (x0 - 1))) then
    if (mand (mxor x0 ((-1))) (mw (x0 - 1))) ≤ 65536 then
      D_J6_numberOfTrailingZeros_0f7a4_34 (mand (mxor x0 ((-1))) (mw (x0 - 1))) 1 σ
    else
      D_J6_numberOfTrailingZeros_0f7a4_34 (mushr (mand (mxor x0 ((-1))) (mw (x0 - 1))) 16) (mw (1 + 16)) σ
  else
    some (mand (mand (mxor x0 ((-1))) (mw (x0 - 1))) 32)
set_option maxRecDepth 100000 in
set_option maxHeartbeats 4000000 in
theorem lk_J6_numberOfTrailingZeros_0f7a4 {G : mG} {x0 : Int} {σ : mS} {R : Int} (hD : D_J6_numberOfTrailingZeros_0f7a4 x0 σ = some R) : Ev G M_J6_numberOfTrailingZeros_0f7a4 0 [(0, vi x0)] [] σ (.inl (some (vi R))) σ := by
  unfold D_J6_numberOfTrailingZeros_0f7a4 at hD
  refine ev_iload_n dJ6_numberOfTrailingZeros_0f7a4_0 0 rfl rfl ?_
  refine ev_iconst dJ6_numberOfTrailingZeros_0f7a4_1 (mi_c rfl) ?_
  refine ev_ixor dJ6_numberOfTrailingZeros_0f7a4_2 ?_
  refine ev_iload_n dJ6_numberOfTrailingZeros_0f7a4_3 0 rfl rfl ?_
  refine ev_iconst dJ6_numberOfTrailingZeros_0f7a4_4 (mi_c rfl) ?_
  refine ev_isub dJ6_numberOfTrailingZeros_0f7a4_5 ?_
  refine ev_iand dJ6_numberOfTrailingZeros_0f7a4_6 ?_
  refine ev_istore_n dJ6_numberOfTrailingZeros_0f7a4_7 rfl (Nat.le_of_ble_eq_true rfl) rfl ?_
  refine ev_iload_n dJ6_numberOfTrailingZeros_0f7a4_8 0 rfl rfl ?_
  by_cases c : 0 < (mand (mxor x0 ((-1))) (mw (x0 - 1)))
  · rw [if_pos c] at hD
    refine ev_if_gt_t (tgt := 17) dJ6_numberOfTrailingZeros_0f7a4_9 (by decide) c ?_
    refine ev_iconst dJ6_numberOfTrailingZeros_0f7a4_17 (mi_c rfl) ?_
    refine ev_istore_n dJ6_numberOfTrailingZeros_0f7a4_18 rfl (Nat.le_of_ble_eq_true rfl) rfl ?_
    refine ev_iload_n dJ6_numberOfTrailingZeros_0f7a4_19 1 rfl rfl ?_
    refine ev_ldcw dJ6_numberOfTrailingZeros_0f7a4_20 w_542 (mi_c rfl) ?_
    by_cases c : (mand (mxor x0 ((-1))) (mw (x0 - 1))) ≤ 65536
    · rw [if_pos c] at hD
      refine ev_icmp_le_t (tgt := 34) dJ6_numberOfTrailingZeros_0f7a4_23 (by decide) c ?_
      refine Ev.pick [1, 0] rfl ?_
      exact lk_J6_numberOfTrailingZeros_0f7a4_34 hD
    · rw [if_neg c] at hD
      refine ev_icmp_le_f 34 dJ6_numberOfTrailingZeros_0f7a4_23 (by decide) c ?_
      refine ev_iinc dJ6_numberOfTrailingZeros_0f7a4_26 0 rfl (Nat.le_of_ble_eq_true rfl) rfl ?_
      refine ev_iload_n dJ6_numberOfTrailingZeros_0f7a4_29 1 rfl rfl ?_
      refine ev_bp dJ6_numberOfTrailingZeros_0f7a4_30 rfl ?_
      refine ev_iushr dJ6_numberOfTrailingZeros_0f7a4_32 ?_
      refine ev_istore_n dJ6_numberOfTrailingZeros_0f7a4_33 rfl (Nat.le_of_ble_eq_true rfl) rfl ?_
      exact lk_J6_numberOfTrailingZeros_0f7a4_34 hD
  · rw [if_neg c] at hD
    refine ev_if_gt_f 17 dJ6_numberOfTrailingZeros_0f7a4_9 (by decide) c ?_
    refine ev_iload_n dJ6_numberOfTrailingZeros_0f7a4_12 0 rfl rfl ?_
    refine ev_bp dJ6_numberOfTrailingZeros_0f7a4_13 rfl ?_
    refine ev_iand dJ6_numberOfTrailingZeros_0f7a4_15 ?_
    cases hD
    exact ev_ret (some (vi _)) dJ6_numberOfTrailingZeros_0f7a4_16 True.intro
theorem ct_J6_numberOfTrailingZeros_0f7a4 {G : mG} {x0 : Int} {σ : mS} {R : Int} (hD : D_J6_numberOfTrailingZeros_0f7a4 x0 σ = some R) : Ct G M_J6_numberOfTrailingZeros_0f7a4 [vi x0] σ (.inl (some (vi R))) σ := ct_of rfl (by decide +kernel) rfl (Nat.le_of_ble_eq_true rfl) rfl (lk_J6_numberOfTrailingZeros_0f7a4 hD)
def D_J13_numberOfTrailingZeros_95d88_25 (y0 : Int) (σ : mS) : Option Int :=
  some y0
set_option maxRecDepth 100000 in
set_option maxHeartbeats 4000000 in
theorem lk_J13_numberOfTrailingZeros_95d88_25 {G : mG} {y0 : Int} {σ : mS} {R : Int} (hD : D_J13_numberOfTrailingZeros_95d88_25 y0 σ = some R) : Ev G M_J13_numberOfTrailingZeros_95d88 25 [] [vi y0] σ (.inl (some (vi R))) σ := by
  unfold D_J13_numberOfTrailingZeros_95d88_25 at hD
  cases hD
  exact ev_ret (some (vi _)) dJ13_numberOfTrailingZeros_95d88_25 True.intro
def D_J13_numberOfTrailingZeros_95d88 (x0 : BitVec 64) (σ : mS) : Option Int :=
  if (ml2i x0) ≠ 0 then
    (D_J6_numberOfTrailingZeros_0f7a4 (ml2i x0) σ).bind fun r1 =>
    D_J13_numberOfTrailingZeros_95d88_25 r1 σ
  else
    (D_J6_numberOfTrailingZeros_0f7a4 (ml2i (mlushr x0 32)) σ).bind fun r2 =>
    D_J13_numberOfTrailingZeros_95d88_25 (mw (32 + r2)) σ
set_option maxRecDepth 100000 in
set_option maxHeartbeats 4000000 in
theorem lk_J13_numberOfTrailingZeros_95d88 {G : mG} {x0 : BitVec 64} {σ : mS} {R : Int} (hD : D_J13_numberOfTrailingZeros_95d88 x0 σ = some R) : Ev G M_J13_numberOfTrailingZeros_95d88 0 [(0, vl x0)] [] σ (.inl (some (vi R))) σ := by
  unfold D_J13_numberOfTrailingZeros_95d88 at hD
  refine ev_lload_n dJ13_numberOfTrailingZeros_95d88_0 0 rfl rfl ?_
  refine ev_l2i dJ13_numberOfTrailingZeros_95d88_1 ?_
  refine ev_istore_n dJ13_numberOfTrailingZeros_95d88_2 rfl (Nat.le_of_ble_eq_true rfl) rfl ?_
  refine ev_iload_n dJ13_numberOfTrailingZeros_95d88_3 0 rfl rfl ?_
  by_cases c : (ml2i x0) ≠ 0
  · rw [if_pos c] at hD
    refine ev_if_ne_t (tgt := 21) dJ13_numberOfTrailingZeros_95d88_4 (by decide) c ?_
    refine ev_iload_n dJ13_numberOfTrailingZeros_95d88_21 0 rfl rfl ?_
    obtain ⟨r1, g, hD⟩ := bd hD
    refine ew_callSv (as := [vi (ml2i x0)]) (rest := []) dJ13_numberOfTrailingZeros_95d88_22 v_J6_numberOfTrailingZeros_0f7a4 w_539 rfl (Nat.le_of_ble_eq_true rfl) (Nat.le_of_ble_eq_true rfl) (Nat.le_of_ble_eq_true rfl) (ct_J6_numberOfTrailingZeros_0f7a4 g) ?_
    refine Ev.pick [] rfl ?_
    exact lk_J13_numberOfTrailingZeros_95d88_25 hD
  · rw [if_neg c] at hD
    refine ev_if_ne_f 21 dJ13_numberOfTrailingZeros_95d88_4 (by decide) c ?_
    refine ev_bp dJ13_numberOfTrailingZeros_95d88_7 rfl ?_
    refine ev_lload_n dJ13_numberOfTrailingZeros_95d88_9 1 rfl rfl ?_
    refine ev_bp dJ13_numberOfTrailingZeros_95d88_10 rfl ?_
    refine ev_lushr dJ13_numberOfTrailingZeros_95d88_12 ?_
    refine ev_l2i dJ13_numberOfTrailingZeros_95d88_13 ?_
    obtain ⟨r2, g, hD⟩ := bd hD
    refine ew_callSv (as := [vi (ml2i (mlushr x0 32))]) (rest := [vi 32]) dJ13_numberOfTrailingZeros_95d88_14 v_J6_numberOfTrailingZeros_0f7a4 w_539 rfl (Nat.le_of_ble_eq_true rfl) (Nat.le_of_ble_eq_true rfl) (Nat.le_of_ble_eq_true rfl) (ct_J6_numberOfTrailingZeros_0f7a4 g) ?_
    refine ev_iadd dJ13_numberOfTrailingZeros_95d88_17 ?_
    refine ev_goto (tgt := 25) dJ13_numberOfTrailingZeros_95d88_18 (by decide) ?_
    refine Ev.pick [] rfl ?_
    exact lk_J13_numberOfTrailingZeros_95d88_25 hD
theorem ct_J13_numberOfTrailingZeros_95d88 {G : mG} {x0 : BitVec 64} {σ : mS} {R : Int} (hD : D_J13_numberOfTrailingZeros_95d88 x0 σ = some R) : Ct G M_J13_numberOfTrailingZeros_95d88 [vl x0] σ (.inl (some (vi R))) σ := ct_of rfl (by decide +kernel) rfl (Nat.le_of_ble_eq_true rfl) rfl (lk_J13_numberOfTrailingZeros_95d88 hD)
def D_J6_numberOfLeadingZeros_0f7a4_73 (x0 : Int) (x1 : Int) (σ : mS) : Option Int :=
  some (mw (x1 - (mushr x0 1)))
set_option maxRecDepth 100000 in
set_option maxHeartbeats 4000000 in
theorem lk_J6_numberOfLeadingZeros_0f7a4_73 {G : mG} {x0 : Int} {x1 : Int} {σ : mS} {R : Int} (hD : D_J6_numberOfLeadingZeros_0f7a4_73 x0 x1 σ = some R) : Ev G M_J6_numberOfLeadingZeros_0f7a4 73 [(0, vi x0), (1, vi x1)] [] σ (.inl (some (vi R))) σ := by
  unfold D_J6_numberOfLeadingZeros_0f7a4_73 at hD
  refine ev_iload_n dJ6_numberOfLeadingZeros_0f7a4_73 1 rfl rfl ?_
  refine ev_iload_n dJ6_numberOfLeadingZeros_0f7a4_74 0 rfl rfl ?_
  refine ev_iconst dJ6_numberOfLeadingZeros_0f7a4_75 (mi_c rfl) ?_
  refine ev_iushr dJ6_numberOfLeadingZeros_0f7a4_76 ?_
  refine ev_isub dJ6_numberOfLeadingZeros_0f7a4_77 ?_
  cases hD
  exact ev_ret (some (vi _)) dJ6_numberOfLeadingZeros_0f7a4_78 True.intro
def D_J6_numberOfLeadingZeros_0f7a4_61 (x0 : Int) (x1 : Int) (σ : mS) : Option Int :=
  if x0 < 4 then
    D_J6_numberOfLeadingZeros_0f7a4_73 x0 x1 σ
  else
    D_J6_numberOfLeadingZeros_0f7a4_73 (mushr x0 2) (mw (x1 + (-2))) σ
set_option maxRecDepth 100000 in
set_option maxHeartbeats 4000000 in
theorem lk_J6_numberOfLeadingZeros_0f7a4_61 {G : mG} {x0 : Int} {x1 : Int} {σ : mS} {R : Int} (hD : D_J6_numberOfLeadingZeros_0f7a4_61 x0 x1 σ = some R) : Ev G M_J6_numberOfLeadingZeros_0f7a4 61 [(0, vi x0), (1, vi x1)] [] σ (.inl (some (vi R))) σ := by
  unfold D_J6_numberOfLeadingZeros_0f7a4_61 at hD
  refine ev_iload_n dJ6_numberOfLeadingZeros_0f7a4_61 0 rfl rfl ?_
  refine ev_iconst dJ6_numberOfLeadingZeros_0f7a4_62 (mi_c rfl) ?_
  by_cases c : x0 < 4
  · rw [if_pos c] at hD
    refine ev_icmp_lt_t (tgt := 73) dJ6_numberOfLeadingZeros_0f7a4_63 (by decide) c ?_
    exact lk_J6_numberOfLeadingZeros_0f7a4_73 hD
  · rw [if_neg c] at hD
    refine ev_icmp_lt_f 73 dJ6_numberOfLeadingZeros_0f7a4_63 (by decide) c ?_
    refine ev_iinc dJ6_numberOfLeadingZeros_0f7a4_66 1 rfl (Nat.le_of_ble_eq_true rfl) rfl ?_
    refine ev_iload_n dJ6_numberOfLeadingZeros_0f7a4_69 1 rfl rfl ?_
    refine ev_iconst dJ6_numberOfLeadingZeros_0f7a4_70 (mi_c rfl) ?_
    refine ev_iushr dJ6_numberOfLeadingZeros_0f7a4_71 ?_
    refine ev_istore_n dJ6_numberOfLeadingZeros_0f7a4_72 rfl (Nat.le_of_ble_eq_true rfl) rfl ?_
    exact lk_J6_numberOfLeadingZeros_0f7a4_73 hD
def D_J6_numberOfLeadingZeros_0f7a4_48 (x0 : Int) (x1 : Int) (σ : mS) : Option Int :=
  if x0 < 16 then
    D_J6_numberOfLeadingZeros_0f7a4_61 x0 x1 σ
  else
    D_J6_numberOfLeadingZeros_0f7a4_61 (mushr x0 4) (mw (x1 + (-4))) σ
set_option maxRecDepth 100000 in
set_option maxHeartbeats 4000000 in
theorem lk_J6_numberOfLeadingZeros_0f7a4_48 {G : mG} {x0 : Int} {x1 : Int} {σ : mS} {R : Int} (hD : D_J6_numberOfLeadingZeros_0f7a4_48 x0 x1 σ = some R) : Ev G M_J6_numberOfLeadingZeros_0f7a4 48 [(0, vi x0), (1, vi x1)] [] σ (.inl (some (vi R))) σ := by
  unfold D_J6_numberOfLeadingZeros_0f7a4_48 at hD
  refine ev_iload_n dJ6_numberOfLeadingZeros_0f7a4_48 0 rfl rfl ?_
  refine ev_bp dJ6_numberOfLeadingZeros_0f7a4_49 rfl ?_
  by_cases c : x0 < 16
  · rw [if_pos c] at hD
    refine ev_icmp_lt_t (tgt := 61) dJ6_numberOfLeadingZeros_0f7a4_51 (by decide) c ?_
    exact lk_J6_numberOfLeadingZeros_0f7a4_61 hD
  · rw [if_neg c] at hD
    refine ev_icmp_lt_f 61 dJ6_numberOfLeadingZeros_0f7a4_51 (by decide) c ?_
    refine ev_iinc dJ6_numberOfLeadingZeros_0f7a4_54 1 rfl (Nat.le_of_ble_eq_true rfl) rfl ?_
    refine ev_iload_n dJ6_numberOfLeadingZeros_0f7a4_57 1 rfl rfl ?_
    refine ev_iconst dJ6_numberOfLeadingZeros_0f7a4_58 (mi_c rfl) ?_
    refine ev_iushr dJ6_numberOfLeadingZeros_0f7a4_59 ?_
    refine ev_istore_n dJ6_numberOfLeadingZeros_0f7a4_60 rfl (Nat.le_of_ble_eq_true rfl) rfl ?_
    exact lk_J6_numberOfLeadingZeros_0f7a4_61 hD
def D_J6_numberOfLeadingZeros_0f7a4_33 (x0 : Int) (x1 : Int) (σ : mS) : Option Int :=
  if x0 < 256 then
    D_J6_numberOfLeadingZeros_0f7a4_48 x0 x1 σ
  else
    D_J6_numberOfLeadingZeros_0f7a4_48 (mushr x0 8) (mw (x1 + (-8))) σ
set_option maxRecDepth 100000 in
set_option maxHeartbeats 4000000 in
theorem lk_J6_numberOfLeadingZeros_0f7a4_33 {G : mG} {x0 : Int} {x1 : Int} {σ : mS} {R : Int} (hD : D_J6_numberOfLeadingZeros_0f7a4_33 x0 x1 σ = some R) : Ev G M_J6_numberOfLeadingZeros_0f7a4 33 [(0, vi x0), (1, vi x1)] [] σ (.inl (some (vi R))) σ := by
  unfold D_J6_numberOfLeadingZeros_0f7a4_33 at hD
  refine ev_iload_n dJ6_numberOfLeadingZeros_0f7a4_33 0 rfl rfl ?_
  refine ev_sp dJ6_numberOfLeadingZeros_0f7a4_34 rfl ?_
  by_cases c : x0 < 256
  · rw [if_pos c] at hD
    refine ev_icmp_lt_t (tgt := 48) dJ6_numberOfLeadingZeros_0f7a4_37 (by decide) c ?_
    exact lk_J6_numberOfLeadingZeros_0f7a4_48 hD
  · rw [if_neg c] at hD
    refine ev_icmp_lt_f 48 dJ6_numberOfLeadingZeros_0f7a4_37 (by decide) c ?_
    refine ev_iinc dJ6_numberOfLeadingZeros_0f7a4_40 1 rfl (Nat.le_of_ble_eq_true rfl) rfl ?_
    refine ev_iload_n dJ6_numberOfLeadingZeros_0f7a4_43 1 rfl rfl ?_
    refine ev_bp dJ6_numberOfLeadingZeros_0f7a4_44 rfl ?_
    refine ev_iushr dJ6_numberOfLeadingZeros_0f7a4_46 ?_
    refine ev_istore_n dJ6_numberOfLeadingZeros_0f7a4_47 rfl (Nat.le_of_ble_eq_true rfl) rfl ?_
    exact lk_J6_numberOfLeadingZeros_0f7a4_48 hD
def D_J6_numberOfLeadingZeros_0f7a4_14 (y0 : Int) (σ : mS) : Option Int :=
  some y0
set_option maxRecDepth 100000 in
set_option maxHeartbeats 4000000 in
theorem lk_J6_numberOfLeadingZeros_0f7a4_14 {G : mG} {y0 : Int} {σ : mS} {R : Int} (hD : D_J6_numberOfLeadingZeros_0f7a4_14 y0 σ = some R) : Ev G M_J6_numberOfLeadingZeros_0f7a4 14 [] [vi y0] σ (.inl (some (vi R))) σ := by
  unfold D_J6_numberOfLeadingZeros_0f7a4_14 at hD
  cases hD
  exact ev_ret (some (vi _)) dJ6_numberOfLeadingZeros_0f7a4_14 True.intro
def D_J6_numberOfLeadingZeros_0f7a4 (x0 : Int) (σ : mS) : Option Int :=
  if 0 < x0 then
    if x0 < 65536 then
      D_J6_numberOfLeadingZeros_0f7a4_33 x0 31 σ
    else
      D_J6_numberOfLeadingZeros_0f7a4_33 (mushr x0 16) (mw (31 + (-16))) σ
  else
    if x0 ≠ 0 then
      D_J6_numberOfLeadingZeros_0f7a4_14 0 σ
    else
      D_J6_numberOfLeadingZeros_0f7a4_14 32 σ
set_option maxRecDepth 100000 in
set_option maxHeartbeats 4000000 in
theorem lk_J6_numberOfLeadingZeros_0f7a4 {G : mG} {x0 : Int} {σ : mS} {R : Int} (hD : D_J6_numberOfLeadingZeros_0f7a4 x0 σ = some R) : Ev G M_J6_numberOfLeadingZeros_0f7a4 0 [(0, vi x0)] [] σ (.inl (some (vi R))) σ := by
  unfold D_J6_numberOfLeadingZeros_0f7a4 at hD
  refine ev_iload_n dJ6_numberOfLeadingZeros_0f7a4_0 0 rfl rfl ?_
  by_cases c : 0 < x0
  · rw [if_pos c] at hD
    refine ev_if_gt_t (tgt := 15) dJ6_numberOfLeadingZeros_0f7a4_1 (by decide) c ?_
    refine ev_bp dJ6_numberOfLeadingZeros_0f7a4_15 rfl ?_
    refine ev_istore_n dJ6_numberOfLeadingZeros_0f7a4_17 rfl (Nat.le_of_ble_eq_true rfl) rfl ?_
    refine ev_iload_n dJ6_numberOfLeadingZeros_0f7a4_18 1 rfl rfl ?_
    refine ev_ldcw dJ6_numberOfLeadingZeros_0f7a4_19 w_542 (mi_c rfl) ?_
    by_cases c : x0 < 65536
    · rw [if_pos c] at hD
      refine ev_icmp_lt_t (tgt := 33) dJ6_numberOfLeadingZeros_0f7a4_22 (by decide) c ?_
      refine Ev.pick [1, 0] rfl ?_
      exact lk_J6_numberOfLeadingZeros_0f7a4_33 hD
    · rw [if_neg c] at hD
      refine ev_icmp_lt_f 33 dJ6_numberOfLeadingZeros_0f7a4_22 (by decide) c ?_
      refine ev_iinc dJ6_numberOfLeadingZeros_0f7a4_25 0 rfl (Nat.le_of_ble_eq_true rfl) rfl ?_
      refine ev_iload_n dJ6_numberOfLeadingZeros_0f7a4_28 1 rfl rfl ?_
      refine ev_bp dJ6_numberOfLeadingZeros_0f7a4_29 rfl ?_
      refine ev_iushr dJ6_numberOfLeadingZeros_0f7a4_31 ?_
      refine ev_istore_n dJ6_numberOfLeadingZeros_0f7a4_32 rfl (Nat.le_of_ble_eq_true rfl) rfl ?_
      exact lk_J6_numberOfLeadingZeros_0f7a4_33 hD
  · rw [if_neg c] at hD
    refine ev_if_gt_f 15 dJ6_numberOfLeadingZeros_0f7a4_1 (by decide) c ?_
    refine ev_iload_n dJ6_numberOfLeadingZeros_0f7a4_4 0 rfl rfl ?_
    by_cases c : x0 ≠ 0
    · rw [if_pos c] at hD
      refine ev_if_ne_t (tgt := 13) dJ6_numberOfLeadingZeros_0f7a4_5 (by decide) c ?_
      refine ev_iconst dJ6_numberOfLeadingZeros_0f7a4_13 (mi_c rfl) ?_
      refine Ev.pick [] rfl ?_
      exact lk_J6_numberOfLeadingZeros_0f7a4_14 hD
    · rw [if_neg c] at hD
      refine ev_if_ne_f 13 dJ6_numberOfLeadingZeros_0f7a4_5 (by decide) c ?_
      refine ev_bp dJ6_numberOfLeadingZeros_0f7a4_8 rfl ?_
      refine ev_goto (tgt := 14) dJ6_numberOfLeadingZeros_0f7a4_10 (by decide) ?_
      refine Ev.pick [] rfl ?_
      exact lk_J6_numberOfLeadingZeros_0f7a4_14 hD
theorem ct_J6_numberOfLeadingZeros_0f7a4 {G : mG} {x0 : Int} {σ : mS} {R : Int} (hD : D_J6_numberOfLeadingZeros_0f7a4 x0 σ = some R) : Ct G M_J6_numberOfLeadingZeros_0f7a4 [vi x0] σ (.inl (some (vi R))) σ := ct_of rfl (by decide +kernel) rfl (Nat.le_of_ble_eq_true rfl) rfl (lk_J6_numberOfLeadingZeros_0f7a4 hD)
def D_J13_numberOfLeadingZeros_95d88_25 (y0 : Int) (σ : mS) : Option Int :=
  some y0
set_option maxRecDepth 100000 in
set_option maxHeartbeats 4000000 in
theorem lk_J13_numberOfLeadingZeros_95d88_25 {G : mG} {y0 : Int} {σ : mS} {R : Int} (hD : D_J13_numberOfLeadingZeros_95d88_25 y0 σ = some R) : Ev G M_J13_numberOfLeadingZeros_95d88 25 [] [vi y0] σ (.inl (some (vi R))) σ := by
  unfold D_J13_numberOfLeadingZeros_95d88_25 at hD
  cases hD
  exact ev_ret (some (vi _)) dJ13_numberOfLeadingZeros_95d88_25 True.intro
def D_J13_numberOfLeadingZeros_95d88 (x0 : BitVec 64) (σ : mS) : Option Int :=
  if (ml2i (mlushr x0 32)) ≠ 0 then
    (D_J6_numberOfLeadingZeros_0f7a4 (ml2i (mlushr x0 32)) σ).bind fun r1 =>
    D_J13_numberOfLeadingZeros_95d88_25 r1 σ
  else
    (D_J6_numberOfLeadingZeros_0f7a4 (ml2i x0) σ).bind fun r2 =>
    D_J13_numberOfLeadingZeros_95d88_25 (mw (32 + r2)) σ
set_option maxRecDepth 100000 in
set_option maxHeartbeats 4000000 in
theorem lk_J13_numberOfLeadingZeros_95d88 {G : mG} {x0 : BitVec 64} {σ : mS} {R : Int} (hD : D_J13_numberOfLeadingZeros_95d88 x0 σ = some R) : Ev G M_J13_numberOfLeadingZeros_95d88 0 [(0, vl x0)] [] σ (.inl (some (vi R))) σ := by
  unfold D_J13_numberOfLeadingZeros_95d88 at hD
  refine ev_lload_n dJ13_numberOfLeadingZeros_95d88_0 0 rfl rfl ?_
  refine ev_bp dJ13_numberOfLeadingZeros_95d88_1 rfl ?_
  refine ev_lushr dJ13_numberOfLeadingZeros_95d88_3 ?_
  refine ev_l2i dJ13_numberOfLeadingZeros_95d88_4 ?_
  refine ev_istore_n dJ13_numberOfLeadingZeros_95d88_5 rfl (Nat.le_of_ble_eq_true rfl) rfl ?_
  refine ev_iload_n dJ13_numberOfLeadingZeros_95d88_6 0 rfl rfl ?_
  by_cases c : (ml2i (mlushr x0 32)) ≠ 0
  · rw [if_pos c] at hD
    refine ev_if_ne_t (tgt := 21) dJ13_numberOfLeadingZeros_95d88_7 (by decide) c ?_
    refine ev_iload_n dJ13_numberOfLeadingZeros_95d88_21 0 rfl rfl ?_
    obtain ⟨r1, g, hD⟩ := bd hD
    refine ew_callSv (as := [vi (ml2i (mlushr x0 32))]) (rest := []) dJ13_numberOfLeadingZeros_95d88_22 v_J6_numberOfLeadingZeros_0f7a4 w_546 rfl (Nat.le_of_ble_eq_true rfl) (Nat.le_of_ble_eq_true rfl) (Nat.le_of_ble_eq_true rfl) (ct_J6_numberOfLeadingZeros_0f7a4 g) ?_
    refine Ev.pick [] rfl ?_
    exact lk_J13_numberOfLeadingZeros_95d88_25 hD
  · rw [if_neg c] at hD
    refine ev_if_ne_f 21 dJ13_numberOfLeadingZeros_95d88_7 (by decide) c ?_
    refine ev_bp dJ13_numberOfLeadingZeros_95d88_10 rfl ?_
    refine ev_lload_n dJ13_numberOfLeadingZeros_95d88_12 1 rfl rfl ?_
    refine ev_l2i dJ13_numberOfLeadingZeros_95d88_13 ?_
    obtain ⟨r2, g, hD⟩ := bd hD
    refine ew_callSv (as := [vi (ml2i x0)]) (rest := [vi 32]) dJ13_numberOfLeadingZeros_95d88_14 v_J6_numberOfLeadingZeros_0f7a4 w_546 rfl (Nat.le_of_ble_eq_true rfl) (Nat.le_of_ble_eq_true rfl) (Nat.le_of_ble_eq_true rfl) (ct_J6_numberOfLeadingZeros_0f7a4 g) ?_
    refine ev_iadd dJ13_numberOfLeadingZeros_95d88_17 ?_
    refine ev_goto (tgt := 25) dJ13_numberOfLeadingZeros_95d88_18 (by decide) ?_
    refine Ev.pick [] rfl ?_
    exact lk_J13_numberOfLeadingZeros_95d88_25 hD
theorem ct_J13_numberOfLeadingZeros_95d88 {G : mG} {x0 : BitVec 64} {σ : mS} {R : Int} (hD : D_J13_numberOfLeadingZeros_95d88 x0 σ = some R) : Ct G M_J13_numberOfLeadingZeros_95d88 [vl x0] σ (.inl (some (vi R))) σ := ct_of rfl (by decide +kernel) rfl (Nat.le_of_ble_eq_true rfl) rfl (lk_J13_numberOfLeadingZeros_95d88 hD)
