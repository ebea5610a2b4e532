def D_X7_putAll_94 (rec : Nat → Int → Int → Int → Int → Int → mS → Option mS) (x0 : Nat) (x3 : Int) (x4 : Int) (x5 : Int) (x6 : Int) (x7 : Int) (x8 : BitVec 64) (y0 : BitVec 64) (σ : mS) : Option mS :=
  (lL σ x0 x7).bind fun v1 =>
  (sL σ x0 x7 (v1 ||| (x8 &&& y0))).bind fun s2 =>
  rec x0 x3 x4 x5 x6 (mw (x7 + 1)) s2
set_option maxRecDepth 100000 in
set_option maxHeartbeats 4000000 in
theorem lk_X7_putAll_94 {G : mG} {rec : Nat → Int → Int → Int → Int → Int → mS → Option mS} {x0 : Nat} {x3 : Int} {x4 : Int} {x5 : Int} {x6 : Int} {x7 : Int} {x8 : BitVec 64} {y0 : BitVec 64} {σ : mS} {R : mS} {r : mX} {τ : mS} (hD : D_X7_putAll_94 rec x0 x3 x4 x5 x6 x7 x8 y0 σ = some R) (hrec : ∀ {x0 : Nat} {x3 : Int} {x4 : Int} {x5 : Int} {x6 : Int} {x7 : Int} {σ : mS} {R : mS}, rec x0 x3 x4 x5 x6 x7 σ = some R → ∀ {r : mX} {τ : mS}, Ev G M_X7_putAll 114 [] [] R r τ → Ev G M_X7_putAll 39 [(0, vr x0), (3, vi x3), (4, vi x4), (5, vi x5), (6, vi x6), (7, vi x7)] [] σ r τ) (hk : Ev G M_X7_putAll 114 [] [] R r τ) : Ev G M_X7_putAll 94 [(0, vr x0), (3, vi x3), (4, vi x4), (5, vi x5), (6, vi x6), (7, vi x7), (8, vl x8)] [vl y0] σ r τ := by
  unfold D_X7_putAll_94 at hD
  refine ev_lstore dX7_putAll_94 (Nat.le_of_ble_eq_true rfl) rfl ?_
  refine ev_aload_n dX7_putAll_96 1 rfl rfl ?_
  refine ev_iload dX7_putAll_97 6 rfl ?_
  refine ev_dup2 dX7_putAll_99 rfl rfl ?_
  obtain ⟨v1, g, hD⟩ := bd hD
  refine ew_lald dX7_putAll_100 g ?_
  refine ev_lload dX7_putAll_101 7 rfl ?_
  refine ev_lload dX7_putAll_103 0 rfl ?_
  refine ev_land dX7_putAll_105 ?_
  refine ev_lor dX7_putAll_106 ?_
  obtain ⟨s2, g, hD⟩ := bd hD
  refine ew_last dX7_putAll_107 g ?_
  refine ev_iinc dX7_putAll_108 6 rfl (Nat.le_of_ble_eq_true rfl) rfl ?_
  refine ev_goto (tgt := 39) dX7_putAll_111 (by decide) ?_
  refine Ev.pick [2, 3, 4, 5, 6, 0] rfl ?_
  exact hrec hD hk
def D_X7_putAll_67 (rec : Nat → Int → Int → Int → Int → Int → mS → Option mS) (x0 : Nat) (x3 : Int) (x4 : Int) (x5 : Int) (x6 : Int) (x7 : Int) (y0 : BitVec 64) (σ : mS) : Option mS :=
  if x7 ≠ x6 then
    D_X7_putAll_94 rec x0 x3 x4 x5 x6 x7 y0 (-1 : BitVec 64) σ
  else
    D_X7_putAll_94 rec x0 x3 x4 x5 x6 x7 y0 (mlushr (-1 : BitVec 64) (mw (63 - (mand x4 63)))) σ
set_option maxRecDepth 100000 in
set_option maxHeartbeats 4000000 in
theorem lk_X7_putAll_67 {G : mG} {rec : Nat → Int → Int → Int → Int → Int → mS → Option mS} {x0 : Nat} {x3 : Int} {x4 : Int} {x5 : Int} {x6 : Int} {x7 : Int} {y0 : BitVec 64} {σ : mS} {R : mS} {r : mX} {τ : mS} (hD : D_X7_putAll_67 rec x0 x3 x4 x5 x6 x7 y0 σ = some R) (hrec : ∀ {x0 : Nat} {x3 : Int} {x4 : Int} {x5 : Int} {x6 : Int} {x7 : Int} {σ : mS} {R : mS}, rec x0 x3 x4 x5 x6 x7 σ = some R → ∀ {r : mX} {τ : mS}, Ev G M_X7_putAll 114 [] [] R r τ → Ev G M_X7_putAll 39 [(0, vr x0), (3, vi x3), (4, vi x4), (5, vi x5), (6, vi x6), (7, vi x7)] [] σ r τ) (hk : Ev G M_X7_putAll 114 [] [] R r τ) : Ev G M_X7_putAll 67 [(0, vr x0), (3, vi x3), (4, vi x4), (5, vi x5), (6, vi x6), (7, vi x7)] [vl y0] σ r τ := by
  unfold D_X7_putAll_67 at hD
  refine ev_lstore dX7_putAll_67 (Nat.le_of_ble_eq_true rfl) rfl ?_
  refine ev_iload dX7_putAll_69 6 rfl ?_
  refine ev_iload dX7_putAll_71 5 rfl ?_
  by_cases c : x7 ≠ x6
  · rw [if_pos c] at hD
    refine ev_icmp_ne_t (tgt := 91) dX7_putAll_73 (by decide) c ?_
    refine ev_ldc2 dX7_putAll_91 w_574 ?_
    refine Ev.pick [1, 2, 3, 4, 5, 6, 0] rfl ?_
    exact lk_X7_putAll_94 hD hrec hk
  · rw [if_neg c] at hD
    refine ev_icmp_ne_f 91 dX7_putAll_73 (by decide) c ?_
    refine ev_ldc2 dX7_putAll_76 w_574 ?_
    refine ev_bp dX7_putAll_79 rfl ?_
    refine ev_iload dX7_putAll_81 3 rfl ?_
    refine ev_bp dX7_putAll_83 rfl ?_
    refine ev_iand dX7_putAll_85 ?_
    refine ev_isub dX7_putAll_86 ?_
    refine ev_lushr dX7_putAll_87 ?_
    refine ev_goto (tgt := 94) dX7_putAll_88 (by decide) ?_
    refine Ev.pick [1, 2, 3, 4, 5, 6, 0] rfl ?_
    exact lk_X7_putAll_94 hD hrec hk
def D_X7_putAll_39 : Nat → Nat → Int → Int → Int → Int → Int → mS → Option mS
  | 0, _, _, _, _, _, _, _ => none
  | f + 1, x0, x3, x4, x5, x6, x7, σ =>
    if x6 < x7 then
      some σ
    else
      if x7 ≠ x5 then
        D_X7_putAll_67 (D_X7_putAll_39 f) x0 x3 x4 x5 x6 x7 (-1 : BitVec 64) σ
      else
        D_X7_putAll_67 (D_X7_putAll_39 f) x0 x3 x4 x5 x6 x7 (mlshl (-1 : BitVec 64) (mand x3 63)) σ
set_option maxRecDepth 100000 in
set_option maxHeartbeats 4000000 in
theorem lk_X7_putAll_39 {G : mG} (f : Nat) : ∀ {x0 : Nat} {x3 : Int} {x4 : Int} {x5 : Int} {x6 : Int} {x7 : Int} {σ : mS} {R : mS}, D_X7_putAll_39 f x0 x3 x4 x5 x6 x7 σ = some R → ∀ {r : mX} {τ : mS}, Ev G M_X7_putAll 114 [] [] R r τ → Ev G M_X7_putAll 39 [(0, vr x0), (3, vi x3), (4, vi x4), (5, vi x5), (6, vi x6), (7, vi x7)] [] σ r τ := by
  induction f with
  | zero =>
    intros
    rename_i hD _ _ _
    cases hD
  | succ f ih =>
    intro x0 x3 x4 x5 x6 x7 σ R hD r τ hk
    have hrec := @ih
    rw [D_X7_putAll_39] at hD
    refine ev_iload dX7_putAll_39 5 rfl ?_
    refine ev_iload dX7_putAll_41 4 rfl ?_
    by_cases c : x6 < x7
    · rw [if_pos c] at hD
      refine ev_icmp_gt_t (tgt := 114) dX7_putAll_43 (by decide) c ?_
      cases hD
      refine Ev.pick [] rfl ?_
      exact hk
    · rw [if_neg c] at hD
      refine ev_icmp_gt_f 114 dX7_putAll_43 (by decide) c ?_
      refine ev_iload dX7_putAll_46 5 rfl ?_
      refine ev_iload dX7_putAll_48 3 rfl ?_
      by_cases c : x7 ≠ x5
      · rw [if_pos c] at hD
        refine ev_icmp_ne_t (tgt := 64) dX7_putAll_50 (by decide) c ?_
        refine ev_ldc2 dX7_putAll_64 w_574 ?_
        exact lk_X7_putAll_67 hD hrec hk
      · rw [if_neg c] at hD
        refine ev_icmp_ne_f 64 dX7_putAll_50 (by decide) c ?_
        refine ev_ldc2 dX7_putAll_53 w_574 ?_
        refine ev_iload_n dX7_putAll_56 1 rfl rfl ?_
        refine ev_bp dX7_putAll_57 rfl ?_
        refine ev_iand dX7_putAll_59 ?_
        refine ev_lshl dX7_putAll_60 ?_
        refine ev_goto (tgt := 67) dX7_putAll_61 (by decide) ?_
        exact lk_X7_putAll_67 hD hrec hk
def D_X7_putAll (x0 : Nat) (x1 : Int) (x2 : Int) (σ : mS) : Option mS :=
  if (if x1 < 0 then 0 else x1) ≤ (if 999 < x2 then 999 else x2) then
    (D_X7_putAll_39 mFU x0 (if x1 < 0 then 0 else x1) (if 999 < x2 then 999 else x2) (mshr (if x1 < 0 then 0 else x1) 6) (mshr (if 999 < x2 then 999 else x2) 6) (mshr (if x1 < 0 then 0 else x1) 6) σ).bind fun r1 =>
    some r1
  else
    some σ
set_option maxRecDepth 100000 in
set_option maxHeartbeats 4000000 in
theorem lk_X7_putAll {G : mG} {x0 : Nat} {x1 : Int} {x2 : Int} {σ : mS} {R : mS} (hD : D_X7_putAll x0 x1 x2 σ = some R) : Ev G M_X7_putAll 0 [(0, vr x0), (1, vi x1), (2, vi x2)] [] σ (.inl none) R := by
  unfold D_X7_putAll at hD
  refine ev_iload_n dX7_putAll_0 1 rfl rfl ?_
  refine ev_iconst dX7_putAll_1 (mi_c rfl) ?_
  refine ev_mmax dX7_putAll_2 w_568 w_569 w_133 w_570 (Nat.le_of_ble_eq_true rfl) (Nat.le_of_ble_eq_true rfl) (Nat.le_of_ble_eq_true rfl) ?_
  refine ev_istore_n dX7_putAll_5 rfl (Nat.le_of_ble_eq_true rfl) rfl ?_
  refine ev_iload_n dX7_putAll_6 3 rfl rfl ?_
  refine ev_sp dX7_putAll_7 rfl ?_
  refine ev_mmin dX7_putAll_10 w_571 w_572 w_133 w_573 (Nat.le_of_ble_eq_true rfl) (Nat.le_of_ble_eq_true rfl) (Nat.le_of_ble_eq_true rfl) ?_
  refine ev_istore dX7_putAll_13 (Nat.le_of_ble_eq_true rfl) rfl ?_
  refine ev_iload_n dX7_putAll_15 1 rfl rfl ?_
  refine ev_iload dX7_putAll_16 0 rfl ?_
  by_cases c : (if x1 < 0 then 0 else x1) ≤ (if 999 < x2 then 999 else x2)
  · rw [if_pos c] at hD
    refine ev_icmp_le_t (tgt := 22) dX7_putAll_18 (by decide) c ?_
    refine ev_iload_n dX7_putAll_22 1 rfl rfl ?_
    refine ev_bp dX7_putAll_23 rfl ?_
    refine ev_ishr dX7_putAll_25 ?_
    refine ev_istore dX7_putAll_26 (Nat.le_of_ble_eq_true rfl) rfl ?_
    refine ev_iload dX7_putAll_28 1 rfl ?_
    refine ev_bp dX7_putAll_30 rfl ?_
    refine ev_ishr dX7_putAll_32 ?_
    refine ev_istore dX7_putAll_33 (Nat.le_of_ble_eq_true rfl) rfl ?_
    refine ev_iload dX7_putAll_35 1 rfl ?_
    refine ev_istore dX7_putAll_37 (Nat.le_of_ble_eq_true rfl) rfl ?_
    obtain ⟨r1, g, hD⟩ := bd hD
    refine Ev.pick [5, 4, 3, 2, 1, 0] rfl ?_
    refine lk_X7_putAll_39 mFU g ?_
    cases hD
    exact ev_ret none dX7_putAll_114 True.intro
  · rw [if_neg c] at hD
    refine ev_icmp_le_f 22 dX7_putAll_18 (by decide) c ?_
    cases hD
    exact ev_ret none dX7_putAll_21 True.intro
theorem ct_X7_putAll {G : mG} {x0 : Nat} {x1 : Int} {x2 : Int} {σ : mS} {R : mS} (hD : D_X7_putAll x0 x1 x2 σ = some R) : Ct G M_X7_putAll [vr x0, vi x1, vi x2] σ (.inl none) R := ct_of rfl (by decide +kernel) rfl (Nat.le_of_ble_eq_true rfl) rfl (lk_X7_putAll hD)
