def D_X0_keepOnly_100 (rec : Nat → Int → Nat → Int → Int → Int → Int → mS → Option (Int × Int × Int × mS)) (x0 : Nat) (x1 : Int) (x2 : Nat) (x3 : Int) (x4 : Int) (x5 : Int) (x6 : Int) (σ : mS) : Option (Int × Int × Int × mS) :=
  rec x0 x1 x2 x3 x4 x5 (mw (x6 + 1)) σ
set_option maxRecDepth 100000 in
set_option maxHeartbeats 4000000 in
theorem lk_X0_keepOnly_100 {G : mG} {rec : Nat → Int → Nat → Int → Int → Int → Int → mS → Option (Int × Int × Int × mS)} {x0 : Nat} {x1 : Int} {x2 : Nat} {x3 : Int} {x4 : Int} {x5 : Int} {x6 : Int} {σ : mS} {R : (Int × Int × Int × mS)} {r : mX} {τ : mS} (hD : D_X0_keepOnly_100 rec x0 x1 x2 x3 x4 x5 x6 σ = some R) (hrec : ∀ {x0 : Nat} {x1 : Int} {x2 : Nat} {x3 : Int} {x4 : Int} {x5 : Int} {x6 : Int} {σ : mS} {R : (Int × Int × Int × mS)}, rec x0 x1 x2 x3 x4 x5 x6 σ = some R → ∀ {r : mX} {τ : mS}, Ev G M_X0_keepOnly 106 [(0, vr x0), (1, vi x1), (3, vi (R.1)), (4, vi (R.2.1)), (5, vi (R.2.2.1))] [] R.2.2.2 r τ → Ev G M_X0_keepOnly 11 [(0, vr x0), (1, vi x1), (2, vr x2), (3, vi x3), (4, vi x4), (5, vi x5), (6, vi x6)] [] σ r τ) (hk : Ev G M_X0_keepOnly 106 [(0, vr x0), (1, vi x1), (3, vi (R.1)), (4, vi (R.2.1)), (5, vi (R.2.2.1))] [] R.2.2.2 r τ) : Ev G M_X0_keepOnly 100 [(0, vr x0), (1, vi x1), (2, vr x2), (3, vi x3), (4, vi x4), (5, vi x5), (6, vi x6)] [] σ r τ := by
  unfold D_X0_keepOnly_100 at hD
  refine ev_iinc dX0_keepOnly_100 6 rfl (Nat.le_of_ble_eq_true rfl) rfl ?_
  refine ev_goto (tgt := 11) dX0_keepOnly_103 (by decide) ?_
  refine Ev.pick [1, 2, 3, 4, 5, 6, 0] rfl ?_
  exact hrec hD hk
def D_X0_keepOnly_82 (rec : Nat → Int → Nat → Int → Int → Int → Int → mS → Option (Int × Int × Int × mS)) (x0 : Nat) (x1 : Int) (x2 : Nat) (x3 : Int) (x6 : Int) (x7 : BitVec 64) (y0 : Int) (σ : mS) : Option (Int × Int × Int × mS) :=
  (D_J13_numberOfLeadingZeros_95d88 x7 σ).bind fun r1 =>
  D_X0_keepOnly_100 rec x0 x1 x2 x3 y0 (mw ((mw ((mw (64 * x6)) + 63)) - r1)) x6 σ
set_option maxRecDepth 100000 in
set_option maxHeartbeats 4000000 in
theorem lk_X0_keepOnly_82 {G : mG} {rec : Nat → Int → Nat → Int → Int → Int → Int → mS → Option (Int × Int × Int × mS)} {x0 : Nat} {x1 : Int} {x2 : Nat} {x3 : Int} {x6 : Int} {x7 : BitVec 64} {y0 : Int} {σ : mS} {R : (Int × Int × Int × mS)} {r : mX} {τ : mS} (hD : D_X0_keepOnly_82 rec x0 x1 x2 x3 x6 x7 y0 σ = some R) (hrec : ∀ {x0 : Nat} {x1 : Int} {x2 : Nat} {x3 : Int} {x4 : Int} {x5 : Int} {x6 : Int} {σ : mS} {R : (Int × Int × Int × mS)}, rec x0 x1 x2 x3 x4 x5 x6 σ = some R → ∀ {r : mX} {τ : mS}, Ev G M_X0_keepOnly 106 [(0, vr x0), (1, vi x1), (3, vi (R.1)), (4, vi (R.2.1)), (5, vi (R.2.2.1))] [] R.2.2.2 r τ → Ev G M_X0_keepOnly 11 [(0, vr x0), (1, vi x1), (2, vr x2), (3, vi x3), (4, vi x4), (5, vi x5), (6, vi x6)] [] σ r τ) (hk : Ev G M_X0_keepOnly 106 [(0, vr x0), (1, vi x1), (3, vi (R.1)), (4, vi (R.2.1)), (5, vi (R.2.2.1))] [] R.2.2.2 r τ) : Ev G M_X0_keepOnly 82 [(0, vr x0), (1, vi x1), (2, vr x2), (3, vi x3), (6, vi x6), (7, vl x7)] [vi y0] σ r τ := by
  unfold D_X0_keepOnly_82 at hD
  refine ev_istore dX0_keepOnly_82 (Nat.le_of_ble_eq_true rfl) rfl ?_
  refine ev_bp dX0_keepOnly_84 rfl ?_
  refine ev_iload dX0_keepOnly_86 5 rfl ?_
  refine ev_imul dX0_keepOnly_88 ?_
  refine ev_bp dX0_keepOnly_89 rfl ?_
  refine ev_iadd dX0_keepOnly_91 ?_
  refine ev_lload dX0_keepOnly_92 6 rfl ?_
  obtain ⟨r1, g, hD⟩ := bd hD
  refine ew_callSv (as := [vl x7]) (rest := [vi (mw ((mw (64 * x6)) + 63))]) dX0_keepOnly_94 v_J13_numberOfLeadingZeros_95d88 w_543 rfl (Nat.le_of_ble_eq_true rfl) (Nat.le_of_ble_eq_true rfl) (Nat.le_of_ble_eq_true rfl) (ct_J13_numberOfLeadingZeros_95d88 g) ?_
  refine ev_isub dX0_keepOnly_97 ?_
  refine ev_istore dX0_keepOnly_98 (Nat.le_of_ble_eq_true rfl) rfl ?_
  refine Ev.pick [2, 3, 4, 5, 1, 0, 6] rfl ?_
  exact lk_X0_keepOnly_100 hD hrec hk
def D_X0_keepOnly_11 : Nat → Nat → Int → Nat → Int → Int → Int → Int → mS → Option (Int × Int × Int × mS)
  | 0, _, _, _, _, _, _, _, _ => none
  | f + 1, x0, x1, x2, x3, x4, x5, x6, σ =>
    if 16 ≤ x6 then
      some (x3, x4, x5, σ)
    else
      (gR σ x0 0 3).bind fun v1 =>
      (lR σ v1 x1).bind fun v2 =>
      (lL σ v2 x6).bind fun v3 =>
      (lL σ x2 x6).bind fun v4 =>
      (gR σ x0 0 3).bind fun v5 =>
      (lR σ v5 x1).bind fun v6 =>
      (sL σ v6 x6 (v3 &&& v4)).bind fun s7 =>
      if (mlcmp (v3 &&& v4) (0 : BitVec 64)) = 0 then
        D_X0_keepOnly_100 (D_X0_keepOnly_11 f) x0 x1 x2 x3 x4 x5 x6 s7
      else
        (D_J13_bitCount_95d88 (v3 &&& v4) s7).bind fun r8 =>
        if x4 ≠ ((-1)) then
          D_X0_keepOnly_82 (D_X0_keepOnly_11 f) x0 x1 x2 (mw (x3 + r8)) x6 (v3 &&& v4) x4 s7
        else
          (D_J13_numberOfTrailingZeros_95d88 (v3 &&& v4) s7).bind fun r9 =>
          D_X0_keepOnly_82 (D_X0_keepOnly_11 f) x0 x1 x2 (mw (x3 + r8)) x6 (v3 &&& v4) (mw ((mw (64 * x6)) + r9)) s7
set_option maxRecDepth 100000 in
set_option maxHeartbeats 4000000 in
theorem lk_X0_keepOnly_11 {G : mG} (f : Nat) : ∀ {x0 : Nat} {x1 : Int} {x2 : Nat} {x3 : Int} {x4 : Int} {x5 : Int} {x6 : Int} {σ : mS} {R : (Int × Int × Int × mS)}, D_X0_keepOnly_11 f x0 x1 x2 x3 x4 x5 x6 σ = some R → ∀ {r : mX} {τ : mS}, Ev G M_X0_keepOnly 106 [(0, vr x0), (1, vi x1), (3, vi (R.1)), (4, vi (R.2.1)), (5, vi (R.2.2.1))] [] R.2.2.2 r τ → Ev G M_X0_keepOnly 11 [(0, vr x0), (1, vi x1), (2, vr x2), (3, vi x3), (4, vi x4), (5, vi x5), (6, vi x6)] [] σ r τ := by
  induction f with
  | zero =>
    intros
    rename_i hD _ _ _
    cases hD
  | succ f ih =>
    intro x0 x1 x2 x3 x4 x5 x6 σ R hD r τ hk
    have hrec := @ih
    rw [D_X0_keepOnly_11] at hD
    refine ev_iload dX0_keepOnly_11 6 rfl ?_
    refine ev_bp dX0_keepOnly_13 rfl ?_
    by_cases c : 16 ≤ x6
    · rw [if_pos c] at hD
      refine ev_icmp_ge_t (tgt := 106) dX0_keepOnly_15 (by decide) c ?_
      cases hD
      refine Ev.pick [0, 1, 3, 4, 5] rfl ?_
      exact hk
    · rw [if_neg c] at hD
      refine ev_icmp_ge_f 106 dX0_keepOnly_15 (by decide) c ?_
      refine ev_aload_n dX0_keepOnly_18 0 rfl rfl ?_
      obtain ⟨v1, g, hD⟩ := bd hD
      refine ew_getR 0 3 dX0_keepOnly_19 rfl (Nat.le_of_ble_eq_true rfl) w_391 in_X0 rfl g ?_
      refine ev_iload_n dX0_keepOnly_22 1 rfl rfl ?_
      obtain ⟨v2, g, hD⟩ := bd hD
      refine ew_aald dX0_keepOnly_23 g ?_
      refine ev_iload dX0_keepOnly_24 6 rfl ?_
      obtain ⟨v3, g, hD⟩ := bd hD
      refine ew_lald dX0_keepOnly_26 g ?_
      refine ev_aload_n dX0_keepOnly_27 2 rfl rfl ?_
      refine ev_iload dX0_keepOnly_28 6 rfl ?_
      obtain ⟨v4, g, hD⟩ := bd hD
      refine ew_lald dX0_keepOnly_30 g ?_
      refine ev_land dX0_keepOnly_31 ?_
      refine ev_lstore dX0_keepOnly_32 (Nat.le_of_ble_eq_true rfl) rfl ?_
      refine ev_aload_n dX0_keepOnly_34 1 rfl rfl ?_
      obtain ⟨v5, g, hD⟩ := bd hD
      refine ew_getR 0 3 dX0_keepOnly_35 rfl (Nat.le_of_ble_eq_true rfl) w_391 in_X0 rfl g ?_
      refine ev_iload_n dX0_keepOnly_38 2 rfl rfl ?_
      obtain ⟨v6, g, hD⟩ := bd hD
      refine ew_aald dX0_keepOnly_39 g ?_
      refine ev_iload dX0_keepOnly_40 7 rfl ?_
      refine ev_lload dX0_keepOnly_42 0 rfl ?_
      obtain ⟨s7, g, hD⟩ := bd hD
      refine ew_last dX0_keepOnly_44 g ?_
      refine ev_lload dX0_keepOnly_45 0 rfl ?_
      refine ev_lconst (w := 0) dX0_keepOnly_47 rfl ?_
      refine ev_lcmp dX0_keepOnly_48 ?_
      by_cases c : (mlcmp (v3 &&& v4) (0 : BitVec 64)) = 0
      · rw [if_pos c] at hD
        refine ev_if_eq_t (tgt := 100) dX0_keepOnly_49 (by decide) c ?_
        refine Ev.pick [1, 2, 3, 4, 5, 6, 7] rfl ?_
        exact lk_X0_keepOnly_100 hD hrec hk
      · rw [if_neg c] at hD
        refine ev_if_eq_f 100 dX0_keepOnly_49 (by decide) c ?_
        refine ev_iload_n dX0_keepOnly_52 4 rfl rfl ?_
        refine ev_lload dX0_keepOnly_53 0 rfl ?_
        obtain ⟨r8, g, hD⟩ := bd hD
        refine ew_callSv (as := [vl (v3 &&& v4)]) (rest := [vi x3]) dX0_keepOnly_55 v_J13_bitCount_95d88 w_530 rfl (Nat.le_of_ble_eq_true rfl) (Nat.le_of_ble_eq_true rfl) (Nat.le_of_ble_eq_true rfl) (ct_J13_bitCount_95d88 g) ?_
        refine ev_iadd dX0_keepOnly_58 ?_
        refine ev_istore_n dX0_keepOnly_59 rfl (Nat.le_of_ble_eq_true rfl) rfl ?_
        refine ev_iload dX0_keepOnly_60 5 rfl ?_
        refine ev_iconst dX0_keepOnly_62 (mi_c rfl) ?_
        by_cases c : x4 ≠ ((-1))
        · rw [if_pos c] at hD
          refine ev_icmp_ne_t (tgt := 80) dX0_keepOnly_63 (by decide) c ?_
          refine ev_iload dX0_keepOnly_80 5 rfl ?_
          refine Ev.pick [2, 3, 4, 0, 7, 1] rfl ?_
          exact lk_X0_keepOnly_82 hD hrec hk
        · rw [if_neg c] at hD
          refine ev_icmp_ne_f 80 dX0_keepOnly_63 (by decide) c ?_
          refine ev_bp dX0_keepOnly_66 rfl ?_
          refine ev_iload dX0_keepOnly_68 7 rfl ?_
          refine ev_imul dX0_keepOnly_70 ?_
          refine ev_lload dX0_keepOnly_71 1 rfl ?_
          obtain ⟨r9, g, hD⟩ := bd hD
          refine ew_callSv (as := [vl (v3 &&& v4)]) (rest := [vi (mw (64 * x6))]) dX0_keepOnly_73 v_J13_numberOfTrailingZeros_95d88 w_536 rfl (Nat.le_of_ble_eq_true rfl) (Nat.le_of_ble_eq_true rfl) (Nat.le_of_ble_eq_true rfl) (ct_J13_numberOfTrailingZeros_95d88 g) ?_
          refine ev_iadd dX0_keepOnly_76 ?_
          refine ev_goto (tgt := 82) dX0_keepOnly_77 (by decide) ?_
          refine Ev.pick [2, 3, 4, 0, 7, 1] rfl ?_
          exact lk_X0_keepOnly_82 hD hrec hk
def D_X0_keepOnly (x0 : Nat) (x1 : Int) (x2 : Nat) (σ : mS) : Option mS :=
  (D_X0_keepOnly_11 mFU x0 x1 x2 0 ((-1)) ((-1)) 0 σ).bind fun r1 =>
  (gR r1.2.2.2 x0 0 4).bind fun v2 =>
  (sI r1.2.2.2 v2 x1 r1.1).bind fun s3 =>
  (gR s3 x0 0 5).bind fun v4 =>
  (sI s3 v4 x1 r1.2.1).bind fun s5 =>
  (gR s5 x0 0 6).bind fun v6 =>
  (sI s5 v6 x1 r1.2.2.1).bind fun s7 =>
  some s7
set_option maxRecDepth 100000 in
set_option maxHeartbeats 4000000 in
theorem lk_X0_keepOnly {G : mG} {x0 : Nat} {x1 : Int} {x2 : Nat} {σ : mS} {R : mS} (hD : D_X0_keepOnly x0 x1 x2 σ = some R) : Ev G M_X0_keepOnly 0 [(0, vr x0), (1, vi x1), (2, vr x2)] [] σ (.inl none) R := by
  unfold D_X0_keepOnly at hD
  refine ev_iconst dX0_keepOnly_0 (mi_c rfl) ?_
  refine ev_istore_n dX0_keepOnly_1 rfl (Nat.le_of_ble_eq_true rfl) rfl ?_
  refine ev_iconst dX0_keepOnly_2 (mi_c rfl) ?_
  refine ev_istore dX0_keepOnly_3 (Nat.le_of_ble_eq_true rfl) rfl ?_
  refine ev_iconst dX0_keepOnly_5 (mi_c rfl) ?_
  refine ev_istore dX0_keepOnly_6 (Nat.le_of_ble_eq_true rfl) rfl ?_
  refine ev_iconst dX0_keepOnly_8 (mi_c rfl) ?_
  refine ev_istore dX0_keepOnly_9 (Nat.le_of_ble_eq_true rfl) rfl ?_
  obtain ⟨r1, g, hD⟩ := bd hD
  refine Ev.pick [4, 5, 6, 3, 2, 1, 0] rfl ?_
  refine lk_X0_keepOnly_11 mFU g ?_
  refine ev_aload_n dX0_keepOnly_106 0 rfl rfl ?_
  obtain ⟨v2, g, hD⟩ := bd hD
  refine ew_getR 0 4 dX0_keepOnly_107 rfl (Nat.le_of_ble_eq_true rfl) w_394 in_X0 rfl g ?_
  refine ev_iload_n dX0_keepOnly_110 1 rfl rfl ?_
  refine ev_iload_n dX0_keepOnly_111 2 rfl rfl ?_
  obtain ⟨s3, g, hD⟩ := bd hD
  refine ew_iast dX0_keepOnly_112 g ?_
  refine ev_aload_n dX0_keepOnly_113 0 rfl rfl ?_
  obtain ⟨v4, g, hD⟩ := bd hD
  refine ew_getR 0 5 dX0_keepOnly_114 rfl (Nat.le_of_ble_eq_true rfl) w_396 in_X0 rfl g ?_
  refine ev_iload_n dX0_keepOnly_117 1 rfl rfl ?_
  refine ev_iload dX0_keepOnly_118 3 rfl ?_
  obtain ⟨s5, g, hD⟩ := bd hD
  refine ew_iast dX0_keepOnly_120 g ?_
  refine ev_aload_n dX0_keepOnly_121 0 rfl rfl ?_
  obtain ⟨v6, g, hD⟩ := bd hD
  refine ew_getR 0 6 dX0_keepOnly_122 rfl (Nat.le_of_ble_eq_true rfl) w_398 in_X0 rfl g ?_
  refine ev_iload_n dX0_keepOnly_125 1 rfl rfl ?_
  refine ev_iload dX0_keepOnly_126 4 rfl ?_
  obtain ⟨s7, g, hD⟩ := bd hD
  refine ew_iast dX0_keepOnly_128 g ?_
  cases hD
  exact ev_ret none dX0_keepOnly_129 True.intro
theorem ct_X0_keepOnly {G : mG} {x0 : Nat} {x1 : Int} {x2 : Nat} {σ : mS} {R : mS} (hD : D_X0_keepOnly x0 x1 x2 σ = some R) : Ct G M_X0_keepOnly [vr x0, vi x1, vr x2] σ (.inl none) R := ct_of rfl (by decide +kernel) rfl (Nat.le_of_ble_eq_true rfl) rfl (lk_X0_keepOnly hD)
def D_X0_hasClash_14 (y0 : Int) (σ : mS) : Option Int :=
  (bO y0).bind fun v1 =>
  some v1
set_option maxRecDepth 100000 in
set_option maxHeartbeats 4000000 in
theorem lk_X0_hasClash_14 {G : mG} {y0 : Int} {σ : mS} {R : Int} (hD : D_X0_hasClash_14 y0 σ = some R) : Ev G M_X0_hasClash 14 [] [vi y0] σ (.inl (some (vi R))) σ := by
  unfold D_X0_hasClash_14 at hD
  obtain ⟨v1, gb, hD⟩ := bd hD
  cases hD
  exact ew_retb dX0_hasClash_14 rfl gb
def D_X0_hasClash (x0 : Nat) (σ : mS) : Option Int :=
  (gI σ x0 0 10).bind fun v1 =>
  if v1 = (-2) then
    D_X0_hasClash_14 0 σ
  else
    D_X0_hasClash_14 1 σ
set_option maxRecDepth 100000 in
set_option maxHeartbeats 4000000 in
theorem lk_X0_hasClash {G : mG} {x0 : Nat} {σ : mS} {R : Int} (hD : D_X0_hasClash x0 σ = some R) : Ev G M_X0_hasClash 0 [(0, vr x0)] [] σ (.inl (some (vi R))) σ := by
  unfold D_X0_hasClash at hD
  refine ev_aload_n dX0_hasClash_0 0 rfl rfl ?_
  obtain ⟨v1, g, hD⟩ := bd hD
  refine ew_getI 0 10 dX0_hasClash_1 rfl (Nat.le_of_ble_eq_true rfl) w_406 in_X0 rfl g ?_
  refine ev_bp dX0_hasClash_4 rfl ?_
  by_cases c : v1 = (-2)
  · rw [if_pos c] at hD
    refine ev_icmp_eq_t (tgt := 13) dX0_hasClash_6 (by decide) c ?_
    refine ev_iconst dX0_hasClash_13 (mi_c rfl) ?_
    refine Ev.pick [] rfl ?_
    exact lk_X0_hasClash_14 hD
  · rw [if_neg c] at hD
    refine ev_icmp_eq_f 13 dX0_hasClash_6 (by decide) c ?_
    refine ev_iconst dX0_hasClash_9 (mi_c rfl) ?_
    refine ev_goto (tgt := 14) dX0_hasClash_10 (by decide) ?_
    refine Ev.pick [] rfl ?_
    exact lk_X0_hasClash_14 hD
theorem ct_X0_hasClash {G : mG} {x0 : Nat} {σ : mS} {R : Int} (hD : D_X0_hasClash x0 σ = some R) : Ct G M_X0_hasClash [vr x0] σ (.inl (some (vi R))) σ := ct_of rfl (by decide +kernel) rfl (Nat.le_of_ble_eq_true rfl) rfl (lk_X0_hasClash hD)
def D_X0_startFromFirst_14 : Nat → Nat → Int → mS → Option mS
  | 0, _, _, _ => none
  | f + 1, x0, x1, σ =>
    (gR σ x0 0 0).bind fun v1 =>
    (gI σ v1 5 5).bind fun v2 =>
    if v2 ≤ x1 then
      some σ
    else
      (gR σ x0 0 7).bind fun v3 =>
      (sI σ v3 x1 0).bind fun s4 =>
      (D_X0_startFromFirst_14 f) x0 (mw (x1 + 1)) s4
set_option maxRecDepth 100000 in
set_option maxHeartbeats 4000000 in
theorem lk_X0_startFromFirst_14 {G : mG} (f : Nat) : ∀ {x0 : Nat} {x1 : Int} {σ : mS} {R : mS}, D_X0_startFromFirst_14 f x0 x1 σ = some R → ∀ {r : mX} {τ : mS}, Ev G M_X0_startFromFirst 38 [(0, vr x0)] [] R r τ → Ev G M_X0_startFromFirst 14 [(0, vr x0), (1, vi x1)] [] σ r τ := by
  induction f with
  | zero =>
    intros
    rename_i hD _ _ _
    cases hD
  | succ f ih =>
    intro x0 x1 σ R hD r τ hk
    have hrec := @ih
    rw [D_X0_startFromFirst_14] at hD
    refine ev_iload_n dX0_startFromFirst_14 1 rfl rfl ?_
    refine ev_aload_n dX0_startFromFirst_15 0 rfl rfl ?_
    obtain ⟨v1, g, hD⟩ := bd hD
    refine ew_getR 0 0 dX0_startFromFirst_16 rfl (Nat.le_of_ble_eq_true rfl) w_387 in_X0 rfl g ?_
    obtain ⟨v2, g, hD⟩ := bd hD
    refine ew_getI 5 5 dX0_startFromFirst_19 rfl (Nat.le_of_ble_eq_true rfl) w_286 in_X5 rfl g ?_
    by_cases c : v2 ≤ x1
    · rw [if_pos c] at hD
      refine ev_icmp_ge_t (tgt := 38) dX0_startFromFirst_22 (by decide) c ?_
      cases hD
      refine Ev.pick [0] rfl ?_
      exact hk
    · rw [if_neg c] at hD
      refine ev_icmp_ge_f 38 dX0_startFromFirst_22 (by decide) c ?_
      refine ev_aload_n dX0_startFromFirst_25 0 rfl rfl ?_
      obtain ⟨v3, g, hD⟩ := bd hD
      refine ew_getR 0 7 dX0_startFromFirst_26 rfl (Nat.le_of_ble_eq_true rfl) w_400 in_X0 rfl g ?_
      refine ev_iload_n dX0_startFromFirst_29 1 rfl rfl ?_
      refine ev_iconst dX0_startFromFirst_30 (mi_c rfl) ?_
      obtain ⟨s4, g, hD⟩ := bd hD
      refine ew_iast dX0_startFromFirst_31 g ?_
      refine ev_iinc dX0_startFromFirst_32 1 rfl (Nat.le_of_ble_eq_true rfl) rfl ?_
      refine ev_goto (tgt := 14) dX0_startFromFirst_35 (by decide) ?_
      refine Ev.pick [1, 0] rfl ?_
      exact hrec hD hk
def D_X0_startFromFirst_107 (rec : Nat → Int → mS → Option mS) (x0 : Nat) (x1 : Int) (σ : mS) : Option mS :=
  rec x0 (mw (x1 + 1)) σ
set_option maxRecDepth 100000 in
set_option maxHeartbeats 4000000 in
theorem lk_X0_startFromFirst_107 {G : mG} {rec : Nat → Int → mS → Option mS} {x0 : Nat} {x1 : Int} {σ : mS} {R : mS} {r : mX} {τ : mS} (hD : D_X0_startFromFirst_107 rec x0 x1 σ = some R) (hrec : ∀ {x0 : Nat} {x1 : Int} {σ : mS} {R : mS}, rec x0 x1 σ = some R → ∀ {r : mX} {τ : mS}, Ev G M_X0_startFromFirst 113 [] [] R r τ → Ev G M_X0_startFromFirst 40 [(0, vr x0), (1, vi x1)] [] σ r τ) (hk : Ev G M_X0_startFromFirst 113 [] [] R r τ) : Ev G M_X0_startFromFirst 107 [(0, vr x0), (1, vi x1)] [] σ r τ := by
  unfold D_X0_startFromFirst_107 at hD
  refine ev_iinc dX0_startFromFirst_107 1 rfl (Nat.le_of_ble_eq_true rfl) rfl ?_
  refine ev_goto (tgt := 40) dX0_startFromFirst_110 (by decide) ?_
  refine Ev.pick [1, 0] rfl ?_
  exact hrec hD hk
def D_X0_startFromFirst_40 : Nat → Nat → Int → mS → Option mS
  | 0, _, _, _ => none
  | f + 1, x0, x1, σ =>
    (gR σ x0 0 0).bind fun v1 =>
    (gI σ v1 5 3).bind fun v2 =>
    if v2 ≤ x1 then
      some σ
    else
      (gR σ x0 0 2).bind fun v3 =>
      (lR σ v3 x1).bind fun v4 =>
      (gR σ x0 0 3).bind fun v5 =>
      (lR σ v5 x1).bind fun v6 =>
      (cpL σ v4 v6 16).bind fun s7 =>
      (gR s7 x0 0 2).bind fun v8 =>
      (lR s7 v8 x1).bind fun v9 =>
      (tgO s7 x0 0).bind fun _ =>
      (D_X0_keepOnly x0 x1 v9 s7).bind fun r10 =>
      (gR r10 x0 0 4).bind fun v11 =>
      (lI r10 v11 x1).bind fun v12 =>
      if v12 ≠ 0 then
        D_X0_startFromFirst_107 (D_X0_startFromFirst_40 f) x0 x1 r10
      else
        (tgO r10 x0 0).bind fun _ =>
        (D_X0_hasClash x0 r10).bind fun r13 =>
        if r13 ≠ 0 then
          D_X0_startFromFirst_107 (D_X0_startFromFirst_40 f) x0 x1 r10
        else
          (pI r10 x0 0 9 ((-1))).bind fun s14 =>
          (pI s14 x0 0 10 x1).bind fun s15 =>
          D_X0_startFromFirst_107 (D_X0_startFromFirst_40 f) x0 x1 s15
set_option maxRecDepth 100000 in
set_option maxHeartbeats 4000000 in
theorem lk_X0_startFromFirst_40 {G : mG} (f : Nat) : ∀ {x0 : Nat} {x1 : Int} {σ : mS} {R : mS}, D_X0_startFromFirst_40 f x0 x1 σ = some R → ∀ {r : mX} {τ : mS}, Ev G M_X0_startFromFirst 113 [] [] R r τ → Ev G M_X0_startFromFirst 40 [(0, vr x0), (1, vi x1)] [] σ r τ := by
  induction f with
  | zero =>
    intros
    rename_i hD _ _ _
    cases hD
  | succ f ih =>
    intro x0 x1 σ R hD r τ hk
    have hrec := @ih
    rw [D_X0_startFromFirst_40] at hD
    refine ev_iload_n dX0_startFromFirst_40 1 rfl rfl ?_
    refine ev_aload_n dX0_startFromFirst_41 0 rfl rfl ?_
    obtain ⟨v1, g, hD⟩ := bd hD
    refine ew_getR 0 0 dX0_startFromFirst_42 rfl (Nat.le_of_ble_eq_true rfl) w_387 in_X0 rfl g ?_
    obtain ⟨v2, g, hD⟩ := bd hD
    refine ew_getI 5 3 dX0_startFromFirst_45 rfl (Nat.le_of_ble_eq_true rfl) w_277 in_X5 rfl g ?_
    by_cases c : v2 ≤ x1
    · rw [if_pos c] at hD
      refine ev_icmp_ge_t (tgt := 113) dX0_startFromFirst_48 (by decide) c ?_
      cases hD
      refine Ev.pick [] rfl ?_
      exact hk
    · rw [if_neg c] at hD
      refine ev_icmp_ge_f 113 dX0_startFromFirst_48 (by decide) c ?_
      refine ev_aload_n dX0_startFromFirst_51 0 rfl rfl ?_
      obtain ⟨v3, g, hD⟩ := bd hD
      refine ew_getR 0 2 dX0_startFromFirst_52 rfl (Nat.le_of_ble_eq_true rfl) w_389 in_X0 rfl g ?_
      refine ev_iload_n dX0_startFromFirst_55 1 rfl rfl ?_
      obtain ⟨v4, g, hD⟩ := bd hD
      refine ew_aald dX0_startFromFirst_56 g ?_
      refine ev_iconst dX0_startFromFirst_57 (mi_c rfl) ?_
      refine ev_aload_n dX0_startFromFirst_58 0 rfl rfl ?_
      obtain ⟨v5, g, hD⟩ := bd hD
      refine ew_getR 0 3 dX0_startFromFirst_59 rfl (Nat.le_of_ble_eq_true rfl) w_391 in_X0 rfl g ?_
      refine ev_iload_n dX0_startFromFirst_62 1 rfl rfl ?_
      obtain ⟨v6, g, hD⟩ := bd hD
      refine ew_aald dX0_startFromFirst_63 g ?_
      refine ev_iconst dX0_startFromFirst_64 (mi_c rfl) ?_
      refine ev_bp dX0_startFromFirst_65 rfl ?_
      obtain ⟨s7, g, hD⟩ := bd hD
      refine ew_copyL dX0_startFromFirst_67 w_523 w_525 w_524 w_134 (Nat.le_of_ble_eq_true rfl) (Nat.le_of_ble_eq_true rfl) (Nat.le_of_ble_eq_true rfl) g ?_
      refine ev_aload_n dX0_startFromFirst_70 0 rfl rfl ?_
      refine ev_iload_n dX0_startFromFirst_71 1 rfl rfl ?_
      refine ev_aload_n dX0_startFromFirst_72 0 rfl rfl ?_
      obtain ⟨v8, g, hD⟩ := bd hD
      refine ew_getR 0 2 dX0_startFromFirst_73 rfl (Nat.le_of_ble_eq_true rfl) w_389 in_X0 rfl g ?_
      refine ev_iload_n dX0_startFromFirst_76 1 rfl rfl ?_
      obtain ⟨v9, g, hD⟩ := bd hD
      refine ew_aald dX0_startFromFirst_77 g ?_
      obtain ⟨_, g0, hD⟩ := bd hD
      obtain ⟨r10, g, hD⟩ := bd hD
      refine ew_callV0 (as := [vi x1, vr v9]) (a := x0) (rest := []) dX0_startFromFirst_78 v_X0_keepOnly w_526 rfl (Nat.le_of_ble_eq_true rfl) rfl rfl g0 (Nat.le_of_ble_eq_true rfl) (Nat.le_of_ble_eq_true rfl) (ct_X0_keepOnly g) ?_
      refine ev_aload_n dX0_startFromFirst_81 0 rfl rfl ?_
      obtain ⟨v11, g, hD⟩ := bd hD
      refine ew_getR 0 4 dX0_startFromFirst_82 rfl (Nat.le_of_ble_eq_true rfl) w_394 in_X0 rfl g ?_
      refine ev_iload_n dX0_startFromFirst_85 1 rfl rfl ?_
      obtain ⟨v12, g, hD⟩ := bd hD
      refine ew_iald dX0_startFromFirst_86 g ?_
      by_cases c : v12 ≠ 0
      · rw [if_pos c] at hD
        refine ev_if_ne_t (tgt := 107) dX0_startFromFirst_87 (by decide) c ?_
        exact lk_X0_startFromFirst_107 hD hrec hk
      · rw [if_neg c] at hD
        refine ev_if_ne_f 107 dX0_startFromFirst_87 (by decide) c ?_
        refine ev_aload_n dX0_startFromFirst_90 0 rfl rfl ?_
        obtain ⟨_, g0, hD⟩ := bd hD
        obtain ⟨r13, g, hD⟩ := bd hD
        refine ew_callVv (as := []) (a := x0) (rest := []) dX0_startFromFirst_91 v_X0_hasClash w_549 rfl (Nat.le_of_ble_eq_true rfl) rfl rfl g0 (Nat.le_of_ble_eq_true rfl) (Nat.le_of_ble_eq_true rfl) (ct_X0_hasClash g) ?_
        by_cases c : r13 ≠ 0
        · rw [if_pos c] at hD
          refine ev_if_ne_t (tgt := 107) dX0_startFromFirst_94 (by decide) c ?_
          exact lk_X0_startFromFirst_107 hD hrec hk
        · rw [if_neg c] at hD
          refine ev_if_ne_f 107 dX0_startFromFirst_94 (by decide) c ?_
          refine ev_aload_n dX0_startFromFirst_97 0 rfl rfl ?_
          refine ev_iconst dX0_startFromFirst_98 (mi_c rfl) ?_
          obtain ⟨s14, g, hD⟩ := bd hD
          refine ew_putI 0 9 dX0_startFromFirst_99 rfl (Nat.le_of_ble_eq_true rfl) w_404 in_X0 tyX0_ok nmX0 (Or.inl rfl) rfl g ?_
          refine ev_aload_n dX0_startFromFirst_102 0 rfl rfl ?_
          refine ev_iload_n dX0_startFromFirst_103 1 rfl rfl ?_
          obtain ⟨s15, g, hD⟩ := bd hD
          refine ew_putI 0 10 dX0_startFromFirst_104 rfl (Nat.le_of_ble_eq_true rfl) w_406 in_X0 tyX0_ok nmX0 (Or.inl rfl) rfl g ?_
          exact lk_X0_startFromFirst_107 hD hrec hk
def D_X0_startFromFirst (x0 : Nat) (σ : mS) : Option mS :=
  (pI σ x0 0 9 (-2)).bind fun s1 =>
  (pI s1 x0 0 10 (-2)).bind fun s2 =>
  (D_X0_startFromFirst_14 mFU x0 0 s2).bind fun r3 =>
  (D_X0_startFromFirst_40 mFU x0 0 r3).bind fun r4 =>
  some r4
set_option maxRecDepth 100000 in
set_option maxHeartbeats 4000000 in
theorem lk_X0_startFromFirst {G : mG} {x0 : Nat} {σ : mS} {R : mS} (hD : D_X0_startFromFirst x0 σ = some R) : Ev G M_X0_startFromFirst 0 [(0, vr x0)] [] σ (.inl none) R := by
  unfold D_X0_startFromFirst at hD
  refine ev_aload_n dX0_startFromFirst_0 0 rfl rfl ?_
  refine ev_bp dX0_startFromFirst_1 rfl ?_
  obtain ⟨s1, g, hD⟩ := bd hD
  refine ew_putI 0 9 dX0_startFromFirst_3 rfl (Nat.le_of_ble_eq_true rfl) w_404 in_X0 tyX0_ok nmX0 (Or.inl rfl) rfl g ?_
  refine ev_aload_n dX0_startFromFirst_6 0 rfl rfl ?_
  refine ev_bp dX0_startFromFirst_7 rfl ?_
  obtain ⟨s2, g, hD⟩ := bd hD
  refine ew_putI 0 10 dX0_startFromFirst_9 rfl (Nat.le_of_ble_eq_true rfl) w_406 in_X0 tyX0_ok nmX0 (Or.inl rfl) rfl g ?_
  refine ev_iconst dX0_startFromFirst_12 (mi_c rfl) ?_
  refine ev_istore_n dX0_startFromFirst_13 rfl (Nat.le_of_ble_eq_true rfl) rfl ?_
  obtain ⟨r3, g, hD⟩ := bd hD
  refine Ev.pick [1, 0] rfl ?_
  refine lk_X0_startFromFirst_14 mFU g ?_
  refine ev_iconst dX0_startFromFirst_38 (mi_c rfl) ?_
  refine ev_istore_n dX0_startFromFirst_39 rfl (Nat.le_of_ble_eq_true rfl) rfl ?_
  obtain ⟨r4, g, hD⟩ := bd hD
  refine Ev.pick [1, 0] rfl ?_
  refine lk_X0_startFromFirst_40 mFU g ?_
  cases hD
  exact ev_ret none dX0_startFromFirst_113 True.intro
theorem ct_X0_startFromFirst {G : mG} {x0 : Nat} {σ : mS} {R : mS} (hD : D_X0_startFromFirst x0 σ = some R) : Ct G M_X0_startFromFirst [vr x0] σ (.inl none) R := ct_of rfl (by decide +kernel) rfl (Nat.le_of_ble_eq_true rfl) rfl (lk_X0_startFromFirst hD)
