def D_X0_layRings_65 (rec : Nat → Nat → Int → Int → Int → mS → Option (Int × mS)) (x0 : Nat) (x1 : Nat) (x4 : Int) (x5 : Int) (x6 : Int) (σ : mS) : Option (Int × mS) :=
  rec x0 x1 x4 x5 (mw (x6 + 1)) σ
set_option maxRecDepth 100000 in
set_option maxHeartbeats 4000000 in
theorem lk_X0_layRings_65 {G : mG} {rec : Nat → Nat → Int → Int → Int → mS → Option (Int × mS)} {x0 : Nat} {x1 : Nat} {x2 : Nat} {x3 : Int} {x4 : Int} {x5 : Int} {x6 : Int} {σ : mS} {R : (Int × mS)} {r : mX} {τ : mS} (hD : D_X0_layRings_65 rec x0 x1 x4 x5 x6 σ = some R) (hrec : ∀ {x0 : Nat} {x1 : Nat} {x4 : Int} {x5 : Int} {x6 : Int} {σ : mS} {R : (Int × mS)}, rec x0 x1 x4 x5 x6 σ = some R → ∀ {r : mX} {τ : mS}, Ev G M_X0_layRings 71 [(0, vr x0), (2, vr x2), (3, vi x3), (5, vi (R.1))] [] R.2 r τ → Ev G M_X0_layRings 9 [(0, vr x0), (1, vr x1), (2, vr x2), (3, vi x3), (4, vi x4), (5, vi x5), (6, vi x6)] [] σ r τ) (hk : Ev G M_X0_layRings 71 [(0, vr x0), (2, vr x2), (3, vi x3), (5, vi (R.1))] [] R.2 r τ) : Ev G M_X0_layRings 65 [(0, vr x0), (1, vr x1), (2, vr x2), (3, vi x3), (4, vi x4), (5, vi x5), (6, vi x6)] [] σ r τ := by
  unfold D_X0_layRings_65 at hD
  refine ev_iinc dX0_layRings_65 6 rfl (Nat.le_of_ble_eq_true rfl) rfl ?_
  refine ev_goto (tgt := 9) dX0_layRings_68 (by decide) ?_
  refine Ev.pick [1, 2, 3, 4, 5, 6, 0] rfl ?_
  exact hrec hD hk
def D_X0_layRings_9 : Nat → Nat → Nat → Int → Int → Int → mS → Option (Int × mS)
  | 0, _, _, _, _, _, _ => none
  | f + 1, x0, x1, x4, x5, x6, σ =>
    if 1000 ≤ x6 then
      some (x5, σ)
    else
      (gR σ x0 0 11).bind fun v1 =>
      (tgO σ x0 0).bind fun _ =>
      (D_X0_misfitOf x0 x1 x6 x4 σ).bind fun r2 =>
      (sI σ v1 x6 r2).bind fun s3 =>
      (gR s3 x0 0 11).bind fun v4 =>
      (lI s3 v4 x6).bind fun v5 =>
      if v5 = ((-1)) then
        D_X0_layRings_65 (D_X0_layRings_9 f) x0 x1 x4 x5 x6 s3
      else
        (gR s3 x0 0 11).bind fun v6 =>
        (lI s3 v6 x6).bind fun v7 =>
        if x5 ≤ v7 then
          D_X0_layRings_65 (D_X0_layRings_9 f) x0 x1 x4 x5 x6 s3
        else
          (gR s3 x0 0 11).bind fun v8 =>
          (lI s3 v8 x6).bind fun v9 =>
          D_X0_layRings_65 (D_X0_layRings_9 f) x0 x1 x4 v9 x6 s3
set_option maxRecDepth 100000 in
set_option maxHeartbeats 4000000 in
theorem lk_X0_layRings_9 {G : mG} {x2 : Nat} {x3 : Int} (f : Nat) : ∀ {x0 : Nat} {x1 : Nat} {x4 : Int} {x5 : Int} {x6 : Int} {σ : mS} {R : (Int × mS)}, D_X0_layRings_9 f x0 x1 x4 x5 x6 σ = some R → ∀ {r : mX} {τ : mS}, Ev G M_X0_layRings 71 [(0, vr x0), (2, vr x2), (3, vi x3), (5, vi (R.1))] [] R.2 r τ → Ev G M_X0_layRings 9 [(0, vr x0), (1, vr x1), (2, vr x2), (3, vi x3), (4, vi x4), (5, vi x5), (6, vi x6)] [] σ r τ := by
  induction f with
  | zero =>
    intros
    rename_i hD _ _ _
    cases hD
  | succ f ih =>
    intro x0 x1 x4 x5 x6 σ R hD r τ hk
    have hrec := @ih
    rw [D_X0_layRings_9] at hD
    refine ev_iload dX0_layRings_9 6 rfl ?_
    refine ev_sp dX0_layRings_11 rfl ?_
    by_cases c : 1000 ≤ x6
    · rw [if_pos c] at hD
      refine ev_icmp_ge_t (tgt := 71) dX0_layRings_14 (by decide) c ?_
      cases hD
      refine Ev.pick [0, 2, 3, 5] rfl ?_
      exact hk
    · rw [if_neg c] at hD
      refine ev_icmp_ge_f 71 dX0_layRings_14 (by decide) c ?_
      refine ev_aload_n dX0_layRings_17 0 rfl rfl ?_
      obtain ⟨v1, g, hD⟩ := bd hD
      refine ew_getR 0 11 dX0_layRings_18 rfl (Nat.le_of_ble_eq_true rfl) w_408 in_X0 rfl g ?_
      refine ev_iload dX0_layRings_21 6 rfl ?_
      refine ev_aload_n dX0_layRings_23 0 rfl rfl ?_
      refine ev_aload_n dX0_layRings_24 1 rfl rfl ?_
      refine ev_iload dX0_layRings_25 6 rfl ?_
      refine ev_iload dX0_layRings_27 4 rfl ?_
      obtain ⟨_, g0, hD⟩ := bd hD
      obtain ⟨r2, g, hD⟩ := bd hD
      refine ew_callVv (as := [vr x1, vi x6, vi x4]) (a := x0) (rest := [vi x6, vr v1]) dX0_layRings_29 v_X0_misfitOf w_501 rfl (Nat.le_of_ble_eq_true rfl) rfl rfl g0 (Nat.le_of_ble_eq_true rfl) (Nat.le_of_ble_eq_true rfl) (ct_X0_misfitOf g) ?_
      obtain ⟨s3, g, hD⟩ := bd hD
      refine ew_iast dX0_layRings_32 g ?_
      refine ev_aload_n dX0_layRings_33 0 rfl rfl ?_
      obtain ⟨v4, g, hD⟩ := bd hD
      refine ew_getR 0 11 dX0_layRings_34 rfl (Nat.le_of_ble_eq_true rfl) w_408 in_X0 rfl g ?_
      refine ev_iload dX0_layRings_37 6 rfl ?_
      obtain ⟨v5, g, hD⟩ := bd hD
      refine ew_iald dX0_layRings_39 g ?_
      refine ev_iconst dX0_layRings_40 (mi_c rfl) ?_
      by_cases c : v5 = ((-1))
      · rw [if_pos c] at hD
        refine ev_icmp_eq_t (tgt := 65) dX0_layRings_41 (by decide) c ?_
        exact lk_X0_layRings_65 hD hrec hk
      · rw [if_neg c] at hD
        refine ev_icmp_eq_f 65 dX0_layRings_41 (by decide) c ?_
        refine ev_aload_n dX0_layRings_44 0 rfl rfl ?_
        obtain ⟨v6, g, hD⟩ := bd hD
        refine ew_getR 0 11 dX0_layRings_45 rfl (Nat.le_of_ble_eq_true rfl) w_408 in_X0 rfl g ?_
        refine ev_iload dX0_layRings_48 6 rfl ?_
        obtain ⟨v7, g, hD⟩ := bd hD
        refine ew_iald dX0_layRings_50 g ?_
        refine ev_iload dX0_layRings_51 5 rfl ?_
        by_cases c : x5 ≤ v7
        · rw [if_pos c] at hD
          refine ev_icmp_ge_t (tgt := 65) dX0_layRings_53 (by decide) c ?_
          exact lk_X0_layRings_65 hD hrec hk
        · rw [if_neg c] at hD
          refine ev_icmp_ge_f 65 dX0_layRings_53 (by decide) c ?_
          refine ev_aload_n dX0_layRings_56 0 rfl rfl ?_
          obtain ⟨v8, g, hD⟩ := bd hD
          refine ew_getR 0 11 dX0_layRings_57 rfl (Nat.le_of_ble_eq_true rfl) w_408 in_X0 rfl g ?_
          refine ev_iload dX0_layRings_60 6 rfl ?_
          obtain ⟨v9, g, hD⟩ := bd hD
          refine ew_iald dX0_layRings_62 g ?_
          refine ev_istore dX0_layRings_63 (Nat.le_of_ble_eq_true rfl) rfl ?_
          refine Ev.pick [1, 2, 3, 4, 5, 0, 6] rfl ?_
          exact lk_X0_layRings_65 hD hrec hk
def D_X0_layRings_113 (rec : Nat → Nat → Int → Int → Int → mS → Option mS) (x0 : Nat) (x2 : Nat) (x3 : Int) (x5 : Int) (x6 : Int) (σ : mS) : Option mS :=
  rec x0 x2 x3 x5 (mw (x6 + 1)) σ
set_option maxRecDepth 100000 in
set_option maxHeartbeats 4000000 in
theorem lk_X0_layRings_113 {G : mG} {rec : Nat → Nat → Int → Int → Int → mS → Option mS} {x0 : Nat} {x2 : Nat} {x3 : Int} {x5 : Int} {x6 : Int} {σ : mS} {R : mS} {r : mX} {τ : mS} (hD : D_X0_layRings_113 rec x0 x2 x3 x5 x6 σ = some R) (hrec : ∀ {x0 : Nat} {x2 : Nat} {x3 : Int} {x5 : Int} {x6 : Int} {σ : mS} {R : mS}, rec x0 x2 x3 x5 x6 σ = some R → ∀ {r : mX} {τ : mS}, Ev G M_X0_layRings 119 [] [] R r τ → Ev G M_X0_layRings 74 [(0, vr x0), (2, vr x2), (3, vi x3), (5, vi x5), (6, vi x6)] [] σ r τ) (hk : Ev G M_X0_layRings 119 [] [] R r τ) : Ev G M_X0_layRings 113 [(0, vr x0), (2, vr x2), (3, vi x3), (5, vi x5), (6, vi x6)] [] σ r τ := by
  unfold D_X0_layRings_113 at hD
  refine ev_iinc dX0_layRings_113 4 rfl (Nat.le_of_ble_eq_true rfl) rfl ?_
  refine ev_goto (tgt := 74) dX0_layRings_116 (by decide) ?_
  refine Ev.pick [1, 2, 3, 4, 0] rfl ?_
  exact hrec hD hk
def D_X0_layRings_74 : Nat → Nat → Nat → Int → Int → Int → mS → Option mS
  | 0, _, _, _, _, _, _ => none
  | f + 1, x0, x2, x3, x5, x6, σ =>
    if 1000 ≤ x6 then
      some σ
    else
      (gR σ x0 0 11).bind fun v1 =>
      (lI σ v1 x6).bind fun v2 =>
      if v2 = ((-1)) then
        D_X0_layRings_113 (D_X0_layRings_74 f) x0 x2 x3 x5 x6 σ
      else
        (gR σ x0 0 11).bind fun v3 =>
        (lI σ v3 x6).bind fun v4 =>
        if (mw (x5 + x3)) < v4 then
          D_X0_layRings_113 (D_X0_layRings_74 f) x0 x2 x3 x5 x6 σ
        else
          (D_X7_put x2 x6 σ).bind fun r5 =>
          D_X0_layRings_113 (D_X0_layRings_74 f) x0 x2 x3 x5 x6 r5
set_option maxRecDepth 100000 in
set_option maxHeartbeats 4000000 in
theorem lk_X0_layRings_74 {G : mG} (f : Nat) : ∀ {x0 : Nat} {x2 : Nat} {x3 : Int} {x5 : Int} {x6 : Int} {σ : mS} {R : mS}, D_X0_layRings_74 f x0 x2 x3 x5 x6 σ = some R → ∀ {r : mX} {τ : mS}, Ev G M_X0_layRings 119 [] [] R r τ → Ev G M_X0_layRings 74 [(0, vr x0), (2, vr x2), (3, vi x3), (5, vi x5), (6, vi x6)] [] σ r τ := by
  induction f with
  | zero =>
    intros
    rename_i hD _ _ _
    cases hD
  | succ f ih =>
    intro x0 x2 x3 x5 x6 σ R hD r τ hk
    have hrec := @ih
    rw [D_X0_layRings_74] at hD
    refine ev_iload dX0_layRings_74 4 rfl ?_
    refine ev_sp dX0_layRings_76 rfl ?_
    by_cases c : 1000 ≤ x6
    · rw [if_pos c] at hD
      refine ev_icmp_ge_t (tgt := 119) dX0_layRings_79 (by decide) c ?_
      cases hD
      refine Ev.pick [] rfl ?_
      exact hk
    · rw [if_neg c] at hD
      refine ev_icmp_ge_f 119 dX0_layRings_79 (by decide) c ?_
      refine ev_aload_n dX0_layRings_82 0 rfl rfl ?_
      obtain ⟨v1, g, hD⟩ := bd hD
      refine ew_getR 0 11 dX0_layRings_83 rfl (Nat.le_of_ble_eq_true rfl) w_408 in_X0 rfl g ?_
      refine ev_iload dX0_layRings_86 4 rfl ?_
      obtain ⟨v2, g, hD⟩ := bd hD
      refine ew_iald dX0_layRings_88 g ?_
      refine ev_iconst dX0_layRings_89 (mi_c rfl) ?_
      by_cases c : v2 = ((-1))
      · rw [if_pos c] at hD
        refine ev_icmp_eq_t (tgt := 113) dX0_layRings_90 (by decide) c ?_
        exact lk_X0_layRings_113 hD hrec hk
      · rw [if_neg c] at hD
        refine ev_icmp_eq_f 113 dX0_layRings_90 (by decide) c ?_
        refine ev_aload_n dX0_layRings_93 0 rfl rfl ?_
        obtain ⟨v3, g, hD⟩ := bd hD
        refine ew_getR 0 11 dX0_layRings_94 rfl (Nat.le_of_ble_eq_true rfl) w_408 in_X0 rfl g ?_
        refine ev_iload dX0_layRings_97 4 rfl ?_
        obtain ⟨v4, g, hD⟩ := bd hD
        refine ew_iald dX0_layRings_99 g ?_
        refine ev_iload dX0_layRings_100 3 rfl ?_
        refine ev_iload_n dX0_layRings_102 2 rfl rfl ?_
        refine ev_iadd dX0_layRings_103 ?_
        by_cases c : (mw (x5 + x3)) < v4
        · rw [if_pos c] at hD
          refine ev_icmp_gt_t (tgt := 113) dX0_layRings_104 (by decide) c ?_
          exact lk_X0_layRings_113 hD hrec hk
        · rw [if_neg c] at hD
          refine ev_icmp_gt_f 113 dX0_layRings_104 (by decide) c ?_
          refine ev_aload_n dX0_layRings_107 1 rfl rfl ?_
          refine ev_iload dX0_layRings_108 4 rfl ?_
          obtain ⟨r5, g, hD⟩ := bd hD
          refine ew_callS0 (as := [vr x2, vi x6]) (rest := []) dX0_layRings_110 v_X7_put w_508 rfl (Nat.le_of_ble_eq_true rfl) (Nat.le_of_ble_eq_true rfl) (Nat.le_of_ble_eq_true rfl) (ct_X7_put g) ?_
          exact lk_X0_layRings_113 hD hrec hk
def D_X0_layRings (x0 : Nat) (x1 : Nat) (x2 : Nat) (x3 : Int) (x4 : Int) (σ : mS) : Option mS :=
  (D_X0_layRings_9 mFU x0 x1 x4 (mw (2147483647 - x3)) 0 σ).bind fun r1 =>
  (D_X0_layRings_74 mFU x0 x2 x3 r1.1 0 r1.2).bind fun r2 =>
  some r2
set_option maxRecDepth 100000 in
set_option maxHeartbeats 4000000 in
theorem lk_X0_layRings {G : mG} {x0 : Nat} {x1 : Nat} {x2 : Nat} {x3 : Int} {x4 : Int} {σ : mS} {R : mS} (hD : D_X0_layRings x0 x1 x2 x3 x4 σ = some R) : Ev G M_X0_layRings 0 [(0, vr x0), (1, vr x1), (2, vr x2), (3, vi x3), (4, vi x4)] [] σ (.inl none) R := by
  unfold D_X0_layRings at hD
  refine ev_ldc dX0_layRings_0 w_500 (mi_c rfl) ?_
  refine ev_iload_n dX0_layRings_2 3 rfl rfl ?_
  refine ev_isub dX0_layRings_3 ?_
  refine ev_istore dX0_layRings_4 (Nat.le_of_ble_eq_true rfl) rfl ?_
  refine ev_iconst dX0_layRings_6 (mi_c rfl) ?_
  refine ev_istore dX0_layRings_7 (Nat.le_of_ble_eq_true rfl) rfl ?_
  obtain ⟨r1, g, hD⟩ := bd hD
  refine Ev.pick [2, 3, 4, 5, 6, 1, 0] rfl ?_
  refine lk_X0_layRings_9 mFU g ?_
  refine ev_iconst dX0_layRings_71 (mi_c rfl) ?_
  refine ev_istore dX0_layRings_72 (Nat.le_of_ble_eq_true rfl) rfl ?_
  obtain ⟨r2, g, hD⟩ := bd hD
  refine Ev.pick [1, 2, 3, 4, 0] rfl ?_
  refine lk_X0_layRings_74 mFU g ?_
  cases hD
  exact ev_ret none dX0_layRings_119 True.intro
theorem ct_X0_layRings {G : mG} {x0 : Nat} {x1 : Nat} {x2 : Nat} {x3 : Int} {x4 : Int} {σ : mS} {R : mS} (hD : D_X0_layRings x0 x1 x2 x3 x4 σ = some R) : Ct G M_X0_layRings [vr x0, vr x1, vr x2, vi x3, vi x4] σ (.inl none) R := ct_of rfl (by decide +kernel) rfl (Nat.le_of_ble_eq_true rfl) rfl (lk_X0_layRings hD)
def D_X0_layDated_44 (rec : Nat → Nat → Int → Int → Int → mS → Option mS) (x0 : Nat) (x1 : Nat) (x2 : Int) (x3 : Int) (x4 : Int) (σ : mS) : Option mS :=
  rec x0 x1 x2 x3 (mw (x4 + 1)) σ
set_option maxRecDepth 100000 in
set_option maxHeartbeats 4000000 in
theorem lk_X0_layDated_44 {G : mG} {rec : Nat → Nat → Int → Int → Int → mS → Option mS} {x0 : Nat} {x1 : Nat} {x2 : Int} {x3 : Int} {x4 : Int} {σ : mS} {R : mS} {r : mX} {τ : mS} (hD : D_X0_layDated_44 rec x0 x1 x2 x3 x4 σ = some R) (hrec : ∀ {x0 : Nat} {x1 : Nat} {x2 : Int} {x3 : Int} {x4 : Int} {σ : mS} {R : mS}, rec x0 x1 x2 x3 x4 σ = some R → ∀ {r : mX} {τ : mS}, Ev G M_X0_layDated 50 [] [] R r τ → Ev G M_X0_layDated 3 [(0, vr x0), (1, vr x1), (2, vi x2), (3, vi x3), (4, vi x4)] [] σ r τ) (hk : Ev G M_X0_layDated 50 [] [] R r τ) : Ev G M_X0_layDated 44 [(0, vr x0), (1, vr x1), (2, vi x2), (3, vi x3), (4, vi x4)] [] σ r τ := by
  unfold D_X0_layDated_44 at hD
  refine ev_iinc dX0_layDated_44 4 rfl (Nat.le_of_ble_eq_true rfl) rfl ?_
  refine ev_goto (tgt := 3) dX0_layDated_47 (by decide) ?_
  refine Ev.pick [1, 2, 3, 4, 0] rfl ?_
  exact hrec hD hk
def D_X0_layDated_3 : Nat → Nat → Nat → Int → Int → Int → mS → Option mS
  | 0, _, _, _, _, _, _ => none
  | f + 1, x0, x1, x2, x3, x4, σ =>
    if 1000 ≤ x4 then
      some σ
    else
      (gR σ x0 0 1).bind fun v1 =>
      (lI σ v1 x4).bind fun v2 =>
      if v2 < x2 then
        D_X0_layDated_44 (D_X0_layDated_3 f) x0 x1 x2 x3 x4 σ
      else
        if x3 < v2 then
          D_X0_layDated_44 (D_X0_layDated_3 f) x0 x1 x2 x3 x4 σ
        else
          if v2 = ((-1)) then
            D_X0_layDated_44 (D_X0_layDated_3 f) x0 x1 x2 x3 x4 σ
          else
            (D_X7_put x1 x4 σ).bind fun r3 =>
            D_X0_layDated_44 (D_X0_layDated_3 f) x0 x1 x2 x3 x4 r3
set_option maxRecDepth 100000 in
set_option maxHeartbeats 4000000 in
theorem lk_X0_layDated_3 {G : mG} (f : Nat) : ∀ {x0 : Nat} {x1 : Nat} {x2 : Int} {x3 : Int} {x4 : Int} {σ : mS} {R : mS}, D_X0_layDated_3 f x0 x1 x2 x3 x4 σ = some R → ∀ {r : mX} {τ : mS}, Ev G M_X0_layDated 50 [] [] R r τ → Ev G M_X0_layDated 3 [(0, vr x0), (1, vr x1), (2, vi x2), (3, vi x3), (4, vi x4)] [] σ r τ := by
  induction f with
  | zero =>
    intros
    rename_i hD _ _ _
    cases hD
  | succ f ih =>
    intro x0 x1 x2 x3 x4 σ R hD r τ hk
    have hrec := @ih
    rw [D_X0_layDated_3] at hD
    refine ev_iload dX0_layDated_3 4 rfl ?_
    refine ev_sp dX0_layDated_5 rfl ?_
    by_cases c : 1000 ≤ x4
    · rw [if_pos c] at hD
      refine ev_icmp_ge_t (tgt := 50) dX0_layDated_8 (by decide) c ?_
      cases hD
      refine Ev.pick [] rfl ?_
      exact hk
    · rw [if_neg c] at hD
      refine ev_icmp_ge_f 50 dX0_layDated_8 (by decide) c ?_
      refine ev_aload_n dX0_layDated_11 0 rfl rfl ?_
      obtain ⟨v1, g, hD⟩ := bd hD
      refine ew_getR 0 1 dX0_layDated_12 rfl (Nat.le_of_ble_eq_true rfl) w_388 in_X0 rfl g ?_
      refine ev_iload dX0_layDated_15 4 rfl ?_
      obtain ⟨v2, g, hD⟩ := bd hD
      refine ew_iald dX0_layDated_17 g ?_
      refine ev_istore dX0_layDated_18 (Nat.le_of_ble_eq_true rfl) rfl ?_
      refine ev_iload dX0_layDated_20 0 rfl ?_
      refine ev_iload_n dX0_layDated_22 3 rfl rfl ?_
      by_cases c : v2 < x2
      · rw [if_pos c] at hD
        refine ev_icmp_lt_t (tgt := 44) dX0_layDated_23 (by decide) c ?_
        refine Ev.pick [1, 2, 3, 4, 5] rfl ?_
        exact lk_X0_layDated_44 hD hrec hk
      · rw [if_neg c] at hD
        refine ev_icmp_lt_f 44 dX0_layDated_23 (by decide) c ?_
        refine ev_iload dX0_layDated_26 0 rfl ?_
        refine ev_iload_n dX0_layDated_28 4 rfl rfl ?_
        by_cases c : x3 < v2
        · rw [if_pos c] at hD
          refine ev_icmp_gt_t (tgt := 44) dX0_layDated_29 (by decide) c ?_
          refine Ev.pick [1, 2, 3, 4, 5] rfl ?_
          exact lk_X0_layDated_44 hD hrec hk
        · rw [if_neg c] at hD
          refine ev_icmp_gt_f 44 dX0_layDated_29 (by decide) c ?_
          refine ev_iload dX0_layDated_32 0 rfl ?_
          refine ev_iconst dX0_layDated_34 (mi_c rfl) ?_
          by_cases c : v2 = ((-1))
          · rw [if_pos c] at hD
            refine ev_icmp_eq_t (tgt := 44) dX0_layDated_35 (by decide) c ?_
            refine Ev.pick [1, 2, 3, 4, 5] rfl ?_
            exact lk_X0_layDated_44 hD hrec hk
          · rw [if_neg c] at hD
            refine ev_icmp_eq_f 44 dX0_layDated_35 (by decide) c ?_
            refine ev_aload_n dX0_layDated_38 2 rfl rfl ?_
            refine ev_iload dX0_layDated_39 5 rfl ?_
            obtain ⟨r3, g, hD⟩ := bd hD
            refine ew_callS0 (as := [vr x1, vi x4]) (rest := []) dX0_layDated_41 v_X7_put w_508 rfl (Nat.le_of_ble_eq_true rfl) (Nat.le_of_ble_eq_true rfl) (Nat.le_of_ble_eq_true rfl) (ct_X7_put g) ?_
            refine Ev.pick [1, 2, 3, 4, 5] rfl ?_
            exact lk_X0_layDated_44 hD hrec hk
def D_X0_layDated (x0 : Nat) (x1 : Nat) (x2 : Int) (x3 : Int) (σ : mS) : Option mS :=
  (D_X0_layDated_3 mFU x0 x1 x2 x3 0 σ).bind fun r1 =>
  some r1
set_option maxRecDepth 100000 in
set_option maxHeartbeats 4000000 in
theorem lk_X0_layDated {G : mG} {x0 : Nat} {x1 : Nat} {x2 : Int} {x3 : Int} {σ : mS} {R : mS} (hD : D_X0_layDated x0 x1 x2 x3 σ = some R) : Ev G M_X0_layDated 0 [(0, vr x0), (1, vr x1), (2, vi x2), (3, vi x3)] [] σ (.inl none) R := by
  unfold D_X0_layDated at hD
  refine ev_iconst dX0_layDated_0 (mi_c rfl) ?_
  refine ev_istore dX0_layDated_1 (Nat.le_of_ble_eq_true rfl) rfl ?_
  obtain ⟨r1, g, hD⟩ := bd hD
  refine Ev.pick [1, 2, 3, 4, 0] rfl ?_
  refine lk_X0_layDated_3 mFU g ?_
  cases hD
  exact ev_ret none dX0_layDated_50 True.intro
theorem ct_X0_layDated {G : mG} {x0 : Nat} {x1 : Nat} {x2 : Int} {x3 : Int} {σ : mS} {R : mS} (hD : D_X0_layDated x0 x1 x2 x3 σ = some R) : Ct G M_X0_layDated [vr x0, vr x1, vi x2, vi x3] σ (.inl none) R := ct_of rfl (by decide +kernel) rfl (Nat.le_of_ble_eq_true rfl) rfl (lk_X0_layDated hD)
def D_X0_layFirst_103 (rec : Nat → Int → Int → Int → mS → Option mS) (x0 : Nat) (x1 : Int) (x2 : Int) (x3 : Int) (σ : mS) : Option mS :=
  rec x0 x1 x2 (mw (x3 + 1)) σ
set_option maxRecDepth 100000 in
set_option maxHeartbeats 4000000 in
theorem lk_X0_layFirst_103 {G : mG} {rec : Nat → Int → Int → Int → mS → Option mS} {x0 : Nat} {x1 : Int} {x2 : Int} {x3 : Int} {σ : mS} {R : mS} {r : mX} {τ : mS} (hD : D_X0_layFirst_103 rec x0 x1 x2 x3 σ = some R) (hrec : ∀ {x0 : Nat} {x1 : Int} {x2 : Int} {x3 : Int} {σ : mS} {R : mS}, rec x0 x1 x2 x3 σ = some R → ∀ {r : mX} {τ : mS}, Ev G M_X0_layFirst 109 [] [] R r τ → Ev G M_X0_layFirst 2 [(0, vr x0), (1, vi x1), (2, vi x2), (3, vi x3)] [] σ r τ) (hk : Ev G M_X0_layFirst 109 [] [] R r τ) : Ev G M_X0_layFirst 103 [(0, vr x0), (1, vi x1), (2, vi x2), (3, vi x3)] [] σ r τ := by
  unfold D_X0_layFirst_103 at hD
  refine ev_iinc dX0_layFirst_103 3 rfl (Nat.le_of_ble_eq_true rfl) rfl ?_
  refine ev_goto (tgt := 2) dX0_layFirst_106 (by decide) ?_
  refine Ev.pick [1, 2, 3, 0] rfl ?_
  exact hrec hD hk
def D_X0_layFirst_2 : Nat → Nat → Int → Int → Int → mS → Option mS
  | 0, _, _, _, _, _ => none
  | f + 1, x0, x1, x2, x3, σ =>
    (gR σ x0 0 0).bind fun v1 =>
    (gI σ v1 5 3).bind fun v2 =>
    if v2 ≤ x3 then
      some σ
    else
      (gR σ x0 0 0).bind fun v3 =>
      (gR σ v3 5 8).bind fun v4 =>
      (lR σ v4 x3).bind fun v5 =>
      (gR σ x0 0 2).bind fun v6 =>
      (lR σ v6 x3).bind fun v7 =>
      (D_X7_clear v7 σ).bind fun r8 =>
      (gI r8 v5 4 0).bind fun v9 =>
      if v9 = 0 then
        (gI r8 v5 4 1).bind fun v10 =>
        (gR r8 x0 0 2).bind fun v11 =>
        (lR r8 v11 x3).bind fun v12 =>
        (gI r8 v5 4 2).bind fun v13 =>
        (gI r8 v5 4 2).bind fun v14 =>
        (tgO r8 x0 0).bind fun _ =>
        (D_X0_layDated x0 v12 (mw ((mw (v10 - x2)) - (mw (x1 * v13)))) (mw ((mw (v10 - x2)) + (mw (x1 * v14)))) r8).bind fun r15 =>
        D_X0_layFirst_103 (D_X0_layFirst_2 f) x0 x1 x2 x3 r15
      else
        (gR r8 x0 0 2).bind fun v16 =>
        (lR r8 v16 x3).bind fun v17 =>
        (gI r8 v5 4 1).bind fun v18 =>
        (tgO r8 x0 0).bind fun _ =>
        (D_X0_layRings x0 v5 v17 (mw (x1 * v18)) x2 r8).bind fun r19 =>
        D_X0_layFirst_103 (D_X0_layFirst_2 f) x0 x1 x2 x3 r19
set_option maxRecDepth 100000 in
set_option maxHeartbeats 4000000 in
theorem lk_X0_layFirst_2 {G : mG} (f : Nat) : ∀ {x0 : Nat} {x1 : Int} {x2 : Int} {x3 : Int} {σ : mS} {R : mS}, D_X0_layFirst_2 f x0 x1 x2 x3 σ = some R → ∀ {r : mX} {τ : mS}, Ev G M_X0_layFirst 109 [] [] R r τ → Ev G M_X0_layFirst 2 [(0, vr x0), (1, vi x1), (2, vi x2), (3, vi x3)] [] σ r τ := by
  induction f with
  | zero =>
    intros
    rename_i hD _ _ _
    cases hD
  | succ f ih =>
    intro x0 x1 x2 x3 σ R hD r τ hk
    have hrec := @ih
    rw [D_X0_layFirst_2] at hD
    refine ev_iload_n dX0_layFirst_2 3 rfl rfl ?_
    refine ev_aload_n dX0_layFirst_3 0 rfl rfl ?_
    obtain ⟨v1, g, hD⟩ := bd hD
    refine ew_getR 0 0 dX0_layFirst_4 rfl (Nat.le_of_ble_eq_true rfl) w_387 in_X0 rfl g ?_
    obtain ⟨v2, g, hD⟩ := bd hD
    refine ew_getI 5 3 dX0_layFirst_7 rfl (Nat.le_of_ble_eq_true rfl) w_277 in_X5 rfl g ?_
    by_cases c : v2 ≤ x3
    · rw [if_pos c] at hD
      refine ev_icmp_ge_t (tgt := 109) dX0_layFirst_10 (by decide) c ?_
      cases hD
      refine Ev.pick [] rfl ?_
      exact hk
    · rw [if_neg c] at hD
      refine ev_icmp_ge_f 109 dX0_layFirst_10 (by decide) c ?_
      refine ev_aload_n dX0_layFirst_13 0 rfl rfl ?_
      obtain ⟨v3, g, hD⟩ := bd hD
      refine ew_getR 0 0 dX0_layFirst_14 rfl (Nat.le_of_ble_eq_true rfl) w_387 in_X0 rfl g ?_
      obtain ⟨v4, g, hD⟩ := bd hD
      refine ew_getR 5 8 dX0_layFirst_17 rfl (Nat.le_of_ble_eq_true rfl) w_295 in_X5 rfl g ?_
      refine ev_iload_n dX0_layFirst_20 3 rfl rfl ?_
      obtain ⟨v5, g, hD⟩ := bd hD
      refine ew_aald dX0_layFirst_21 g ?_
      refine ev_astore dX0_layFirst_22 (Nat.le_of_ble_eq_true rfl) rfl ?_
      refine ev_aload_n dX0_layFirst_24 1 rfl rfl ?_
      obtain ⟨v6, g, hD⟩ := bd hD
      refine ew_getR 0 2 dX0_layFirst_25 rfl (Nat.le_of_ble_eq_true rfl) w_389 in_X0 rfl g ?_
      refine ev_iload_n dX0_layFirst_28 4 rfl rfl ?_
      obtain ⟨v7, g, hD⟩ := bd hD
      refine ew_aald dX0_layFirst_29 g ?_
      obtain ⟨r8, g, hD⟩ := bd hD
      refine ew_callS0 (as := [vr v7]) (rest := []) dX0_layFirst_30 v_X7_clear w_493 rfl (Nat.le_of_ble_eq_true rfl) (Nat.le_of_ble_eq_true rfl) (Nat.le_of_ble_eq_true rfl) (ct_X7_clear g) ?_
      refine ev_aload dX0_layFirst_33 0 rfl ?_
      obtain ⟨v9, g, hD⟩ := bd hD
      refine ew_getI 4 0 dX0_layFirst_35 rfl (Nat.le_of_ble_eq_true rfl) w_175 in_X4 rfl g ?_
      by_cases c : v9 = 0
      · rw [if_pos c] at hD
        refine ev_if_eq_t (tgt := 64) dX0_layFirst_38 (by decide) c ?_
        refine ev_aload dX0_layFirst_64 0 rfl ?_
        obtain ⟨v10, g, hD⟩ := bd hD
        refine ew_getI 4 1 dX0_layFirst_66 rfl (Nat.le_of_ble_eq_true rfl) w_179 in_X4 rfl g ?_
        refine ev_iload_n dX0_layFirst_69 3 rfl rfl ?_
        refine ev_isub dX0_layFirst_70 ?_
        refine ev_istore dX0_layFirst_71 (Nat.le_of_ble_eq_true rfl) rfl ?_
        refine ev_aload_n dX0_layFirst_73 2 rfl rfl ?_
        refine ev_aload_n dX0_layFirst_74 2 rfl rfl ?_
        obtain ⟨v11, g, hD⟩ := bd hD
        refine ew_getR 0 2 dX0_layFirst_75 rfl (Nat.le_of_ble_eq_true rfl) w_389 in_X0 rfl g ?_
        refine ev_iload_n dX0_layFirst_78 5 rfl rfl ?_
        obtain ⟨v12, g, hD⟩ := bd hD
        refine ew_aald dX0_layFirst_79 g ?_
        refine ev_iload dX0_layFirst_80 0 rfl ?_
        refine ev_iload_n dX0_layFirst_82 3 rfl rfl ?_
        refine ev_aload dX0_layFirst_83 1 rfl ?_
        obtain ⟨v13, g, hD⟩ := bd hD
        refine ew_getI 4 2 dX0_layFirst_85 rfl (Nat.le_of_ble_eq_true rfl) w_183 in_X4 rfl g ?_
        refine ev_imul dX0_layFirst_88 ?_
        refine ev_isub dX0_layFirst_89 ?_
        refine ev_iload dX0_layFirst_90 0 rfl ?_
        refine ev_iload_n dX0_layFirst_92 3 rfl rfl ?_
        refine ev_aload dX0_layFirst_93 1 rfl ?_
        obtain ⟨v14, g, hD⟩ := bd hD
        refine ew_getI 4 2 dX0_layFirst_95 rfl (Nat.le_of_ble_eq_true rfl) w_183 in_X4 rfl g ?_
        refine ev_imul dX0_layFirst_98 ?_
        refine ev_iadd dX0_layFirst_99 ?_
        obtain ⟨_, g0, hD⟩ := bd hD
        obtain ⟨r15, g, hD⟩ := bd hD
        refine ew_callV0 (as := [vr v12, vi (mw ((mw (v10 - x2)) - (mw (x1 * v13)))), vi (mw ((mw (v10 - x2)) + (mw (x1 * v14))))]) (a := x0) (rest := []) dX0_layFirst_100 v_X0_layDated w_511 rfl (Nat.le_of_ble_eq_true rfl) rfl rfl g0 (Nat.le_of_ble_eq_true rfl) (Nat.le_of_ble_eq_true rfl) (ct_X0_layDated g) ?_
        refine Ev.pick [2, 3, 4, 5] rfl ?_
        exact lk_X0_layFirst_103 hD hrec hk
      · rw [if_neg c] at hD
        refine ev_if_eq_f 64 dX0_layFirst_38 (by decide) c ?_
        refine ev_aload_n dX0_layFirst_41 1 rfl rfl ?_
        refine ev_aload dX0_layFirst_42 0 rfl ?_
        refine ev_aload_n dX0_layFirst_44 1 rfl rfl ?_
        obtain ⟨v16, g, hD⟩ := bd hD
        refine ew_getR 0 2 dX0_layFirst_45 rfl (Nat.le_of_ble_eq_true rfl) w_389 in_X0 rfl g ?_
        refine ev_iload_n dX0_layFirst_48 4 rfl rfl ?_
        obtain ⟨v17, g, hD⟩ := bd hD
        refine ew_aald dX0_layFirst_49 g ?_
        refine ev_iload_n dX0_layFirst_50 2 rfl rfl ?_
        refine ev_aload dX0_layFirst_51 0 rfl ?_
        obtain ⟨v18, g, hD⟩ := bd hD
        refine ew_getI 4 1 dX0_layFirst_53 rfl (Nat.le_of_ble_eq_true rfl) w_179 in_X4 rfl g ?_
        refine ev_imul dX0_layFirst_56 ?_
        refine ev_iload_n dX0_layFirst_57 3 rfl rfl ?_
        obtain ⟨_, g0, hD⟩ := bd hD
        obtain ⟨r19, g, hD⟩ := bd hD
        refine ew_callV0 (as := [vr v5, vr v17, vi (mw (x1 * v18)), vi x2]) (a := x0) (rest := []) dX0_layFirst_58 v_X0_layRings w_496 rfl (Nat.le_of_ble_eq_true rfl) rfl rfl g0 (Nat.le_of_ble_eq_true rfl) (Nat.le_of_ble_eq_true rfl) (ct_X0_layRings g) ?_
        refine ev_goto (tgt := 103) dX0_layFirst_61 (by decide) ?_
        refine Ev.pick [1, 2, 3, 4] rfl ?_
        exact lk_X0_layFirst_103 hD hrec hk
def D_X0_layFirst (x0 : Nat) (x1 : Int) (x2 : Int) (σ : mS) : Option mS :=
  (D_X0_layFirst_2 mFU x0 x1 x2 0 σ).bind fun r1 =>
  some r1
set_option maxRecDepth 100000 in
set_option maxHeartbeats 4000000 in
theorem lk_X0_layFirst {G : mG} {x0 : Nat} {x1 : Int} {x2 : Int} {σ : mS} {R : mS} (hD : D_X0_layFirst x0 x1 x2 σ = some R) : Ev G M_X0_layFirst 0 [(0, vr x0), (1, vi x1), (2, vi x2)] [] σ (.inl none) R := by
  unfold D_X0_layFirst at hD
  refine ev_iconst dX0_layFirst_0 (mi_c rfl) ?_
  refine ev_istore_n dX0_layFirst_1 rfl (Nat.le_of_ble_eq_true rfl) rfl ?_
  obtain ⟨r1, g, hD⟩ := bd hD
  refine Ev.pick [1, 2, 3, 0] rfl ?_
  refine lk_X0_layFirst_2 mFU g ?_
  cases hD
  exact ev_ret none dX0_layFirst_109 True.intro
theorem ct_X0_layFirst {G : mG} {x0 : Nat} {x1 : Int} {x2 : Int} {σ : mS} {R : mS} (hD : D_X0_layFirst x0 x1 x2 σ = some R) : Ct G M_X0_layFirst [vr x0, vi x1, vi x2] σ (.inl none) R := ct_of rfl (by decide +kernel) rfl (Nat.le_of_ble_eq_true rfl) rfl (lk_X0_layFirst hD)
