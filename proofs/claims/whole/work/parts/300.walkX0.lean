def D_X0_init (x0 : Nat) (x1 : Nat) (x2 : Nat) (σ : mS) : Option mS :=
  (tgN x0).bind fun _ =>
  (nwM σ 8 1 12 16).bind fun s1 =>
  (pR s1 x0 0 2 (32 + mN σ)).bind fun s2 =>
  (nwM s2 8 1 12 16).bind fun s3 =>
  (pR s3 x0 0 3 (32 + mN s2)).bind fun s4 =>
  (nwA s4 0 12).bind fun s5 =>
  (pR s5 x0 0 4 (32 + mN s4)).bind fun s6 =>
  (nwA s6 0 12).bind fun s7 =>
  (pR s7 x0 0 5 (32 + mN s6)).bind fun s8 =>
  (nwA s8 0 12).bind fun s9 =>
  (pR s9 x0 0 6 (32 + mN s8)).bind fun s10 =>
  (nwA s10 0 24).bind fun s11 =>
  (pR s11 x0 0 7 (32 + mN s10)).bind fun s12 =>
  (pI s12 x0 0 8 0).bind fun s13 =>
  (pI s13 x0 0 9 (-2)).bind fun s14 =>
  (pI s14 x0 0 10 (-2)).bind fun s15 =>
  (nwA s15 0 1000).bind fun s16 =>
  (pR s16 x0 0 11 (32 + mN s15)).bind fun s17 =>
  (nwA s17 1 16).bind fun s18 =>
  (pR s18 x0 0 12 (32 + mN s17)).bind fun s19 =>
  (pI s19 x0 0 13 ((-1))).bind fun s20 =>
  (pB s20 x0 0 14 0).bind fun s21 =>
  (pR s21 x0 0 0 x1).bind fun s22 =>
  (pR s22 x0 0 1 x2).bind fun s23 =>
  some s23
set_option maxRecDepth 100000 in
set_option maxHeartbeats 4000000 in
theorem lk_X0_init {G : mG} {x0 : Nat} {x1 : Nat} {x2 : Nat} {σ : mS} {R : mS} (hD : D_X0_init x0 x1 x2 σ = some R) : Ev G M_X0_init 0 [(0, vr x0), (1, vr x1), (2, vr x2)] [] σ (.inl none) R := by
  unfold D_X0_init at hD
  refine ev_aload_n dX0_init_0 0 rfl rfl ?_
  obtain ⟨_, g, hD⟩ := bd hD
  refine ew_objInit dX0_init_1 w_384 w_objI w_objC (Nat.le_of_ble_eq_true rfl) (Nat.le_of_ble_eq_true rfl) (Nat.le_of_ble_eq_true rfl) g ?_
  refine ev_aload_n dX0_init_4 0 rfl rfl ?_
  refine ev_bp dX0_init_5 rfl ?_
  refine ev_bp dX0_init_7 rfl ?_
  obtain ⟨s1, g, hD⟩ := bd hD
  refine ew_mnew 8 1 dX0_init_9 rfl rfl w_385 w_t386 w_443 g ?_
  obtain ⟨s2, g, hD⟩ := bd hD
  refine ew_putR 0 2 dX0_init_13 rfl (Nat.le_of_ble_eq_true rfl) w_389 in_X0 tyX0_ok nmX0 (Or.inr ⟨rfl, rfl⟩) rfl g ?_
  refine ev_aload_n dX0_init_16 0 rfl rfl ?_
  refine ev_bp dX0_init_17 rfl ?_
  refine ev_bp dX0_init_19 rfl ?_
  obtain ⟨s3, g, hD⟩ := bd hD
  refine ew_mnew 8 1 dX0_init_21 rfl rfl w_385 w_t386 w_443 g ?_
  obtain ⟨s4, g, hD⟩ := bd hD
  refine ew_putR 0 3 dX0_init_25 rfl (Nat.le_of_ble_eq_true rfl) w_391 in_X0 tyX0_ok nmX0 (Or.inr ⟨rfl, rfl⟩) rfl g ?_
  refine ev_aload_n dX0_init_28 0 rfl rfl ?_
  refine ev_bp dX0_init_29 rfl ?_
  obtain ⟨s5, g, hD⟩ := bd hD
  refine ew_newa 0 dX0_init_31 rfl rfl (by decide +kernel) (by decide +kernel) w_203 g ?_
  obtain ⟨s6, g, hD⟩ := bd hD
  refine ew_putR 0 4 dX0_init_33 rfl (Nat.le_of_ble_eq_true rfl) w_394 in_X0 tyX0_ok nmX0 (Or.inr ⟨rfl, rfl⟩) rfl g ?_
  refine ev_aload_n dX0_init_36 0 rfl rfl ?_
  refine ev_bp dX0_init_37 rfl ?_
  obtain ⟨s7, g, hD⟩ := bd hD
  refine ew_newa 0 dX0_init_39 rfl rfl (by decide +kernel) (by decide +kernel) w_203 g ?_
  obtain ⟨s8, g, hD⟩ := bd hD
  refine ew_putR 0 5 dX0_init_41 rfl (Nat.le_of_ble_eq_true rfl) w_396 in_X0 tyX0_ok nmX0 (Or.inr ⟨rfl, rfl⟩) rfl g ?_
  refine ev_aload_n dX0_init_44 0 rfl rfl ?_
  refine ev_bp dX0_init_45 rfl ?_
  obtain ⟨s9, g, hD⟩ := bd hD
  refine ew_newa 0 dX0_init_47 rfl rfl (by decide +kernel) (by decide +kernel) w_203 g ?_
  obtain ⟨s10, g, hD⟩ := bd hD
  refine ew_putR 0 6 dX0_init_49 rfl (Nat.le_of_ble_eq_true rfl) w_398 in_X0 tyX0_ok nmX0 (Or.inr ⟨rfl, rfl⟩) rfl g ?_
  refine ev_aload_n dX0_init_52 0 rfl rfl ?_
  refine ev_bp dX0_init_53 rfl ?_
  obtain ⟨s11, g, hD⟩ := bd hD
  refine ew_newa 0 dX0_init_55 rfl rfl (by decide +kernel) (by decide +kernel) w_203 g ?_
  obtain ⟨s12, g, hD⟩ := bd hD
  refine ew_putR 0 7 dX0_init_57 rfl (Nat.le_of_ble_eq_true rfl) w_400 in_X0 tyX0_ok nmX0 (Or.inr ⟨rfl, rfl⟩) rfl g ?_
  refine ev_aload_n dX0_init_60 0 rfl rfl ?_
  refine ev_iconst dX0_init_61 (mi_c rfl) ?_
  obtain ⟨s13, g, hD⟩ := bd hD
  refine ew_putI 0 8 dX0_init_62 rfl (Nat.le_of_ble_eq_true rfl) w_402 in_X0 tyX0_ok nmX0 (Or.inl rfl) rfl g ?_
  refine ev_aload_n dX0_init_65 0 rfl rfl ?_
  refine ev_bp dX0_init_66 rfl ?_
  obtain ⟨s14, g, hD⟩ := bd hD
  refine ew_putI 0 9 dX0_init_68 rfl (Nat.le_of_ble_eq_true rfl) w_404 in_X0 tyX0_ok nmX0 (Or.inl rfl) rfl g ?_
  refine ev_aload_n dX0_init_71 0 rfl rfl ?_
  refine ev_bp dX0_init_72 rfl ?_
  obtain ⟨s15, g, hD⟩ := bd hD
  refine ew_putI 0 10 dX0_init_74 rfl (Nat.le_of_ble_eq_true rfl) w_406 in_X0 tyX0_ok nmX0 (Or.inl rfl) rfl g ?_
  refine ev_aload_n dX0_init_77 0 rfl rfl ?_
  refine ev_sp dX0_init_78 rfl ?_
  obtain ⟨s16, g, hD⟩ := bd hD
  refine ew_newa 0 dX0_init_81 rfl rfl (by decide +kernel) (by decide +kernel) w_203 g ?_
  obtain ⟨s17, g, hD⟩ := bd hD
  refine ew_putR 0 11 dX0_init_83 rfl (Nat.le_of_ble_eq_true rfl) w_408 in_X0 tyX0_ok nmX0 (Or.inr ⟨rfl, rfl⟩) rfl g ?_
  refine ev_aload_n dX0_init_86 0 rfl rfl ?_
  refine ev_bp dX0_init_87 rfl ?_
  obtain ⟨s18, g, hD⟩ := bd hD
  refine ew_newa 1 dX0_init_89 rfl rfl (by decide +kernel) (by decide +kernel) w_443 g ?_
  obtain ⟨s19, g, hD⟩ := bd hD
  refine ew_putR 0 12 dX0_init_91 rfl (Nat.le_of_ble_eq_true rfl) w_409 in_X0 tyX0_ok nmX0 (Or.inr ⟨rfl, rfl⟩) rfl g ?_
  refine ev_aload_n dX0_init_94 0 rfl rfl ?_
  refine ev_iconst dX0_init_95 (mi_c rfl) ?_
  obtain ⟨s20, g, hD⟩ := bd hD
  refine ew_putI 0 13 dX0_init_96 rfl (Nat.le_of_ble_eq_true rfl) w_410 in_X0 tyX0_ok nmX0 (Or.inl rfl) rfl g ?_
  refine ev_aload_n dX0_init_99 0 rfl rfl ?_
  refine ev_iconst dX0_init_100 (mi_c rfl) ?_
  obtain ⟨s21, g, hD⟩ := bd hD
  refine ew_putB 0 14 dX0_init_101 rfl (Nat.le_of_ble_eq_true rfl) w_411 in_X0 tyX0_ok nmX0 (Or.inl rfl) rfl g ?_
  refine ev_aload_n dX0_init_104 0 rfl rfl ?_
  refine ev_aload_n dX0_init_105 1 rfl rfl ?_
  obtain ⟨s22, g, hD⟩ := bd hD
  refine ew_putR 0 0 dX0_init_106 rfl (Nat.le_of_ble_eq_true rfl) w_387 in_X0 tyX0_ok nmX0 (Or.inr ⟨rfl, rfl⟩) rfl g ?_
  refine ev_aload_n dX0_init_109 0 rfl rfl ?_
  refine ev_aload_n dX0_init_110 2 rfl rfl ?_
  obtain ⟨s23, g, hD⟩ := bd hD
  refine ew_putR 0 1 dX0_init_111 rfl (Nat.le_of_ble_eq_true rfl) w_388 in_X0 tyX0_ok nmX0 (Or.inr ⟨rfl, rfl⟩) rfl g ?_
  cases hD
  exact ev_ret none dX0_init_114 True.intro
theorem ct_X0_init {G : mG} {x0 : Nat} {x1 : Nat} {x2 : Nat} {σ : mS} {R : mS} (hD : D_X0_init x0 x1 x2 σ = some R) : Ct G M_X0_init [vr x0, vr x1, vr x2] σ (.inl none) R := ct_of rfl (by decide +kernel) rfl (Nat.le_of_ble_eq_true rfl) rfl (lk_X0_init hD)
def D_X0_misfitOf_90 (rec : Nat → Nat → Int → Int → Int → Int → mS → Option (Int ⊕ Int)) (σ : mS) : Option (Int ⊕ Int) :=
  some (Sum.inr ((-1)))
set_option maxRecDepth 100000 in
set_option maxHeartbeats 4000000 in
theorem lk_X0_misfitOf_90 {G : mG} {rec : Nat → Nat → Int → Int → Int → Int → mS → Option (Int ⊕ Int)} {σ : mS} {R : (Int ⊕ Int)} {r : mX} {τ : mS} (hD : D_X0_misfitOf_90 rec  σ = some R) (hrec : ∀ {x0 : Nat} {x1 : Nat} {x2 : Int} {x3 : Int} {x4 : Int} {x5 : Int} {σ : mS} {R : (Int ⊕ Int)}, rec x0 x1 x2 x3 x4 x5 σ = some R → ∀ {r : mX} {τ : mS}, (∀ z, R = (Sum.inl z) → Ev G M_X0_misfitOf 123 [(4, vi (z))] [] σ r τ) ∧ (∀ z, R = (Sum.inr z) → r = .inl (some (vi z)) ∧ τ = σ) → Ev G M_X0_misfitOf 44 [(0, vr x0), (1, vr x1), (2, vi x2), (3, vi x3), (4, vi x4), (5, vi x5)] [] σ r τ) (hk : (∀ z, R = (Sum.inl z) → Ev G M_X0_misfitOf 123 [(4, vi (z))] [] σ r τ) ∧ (∀ z, R = (Sum.inr z) → r = .inl (some (vi z)) ∧ τ = σ)) : Ev G M_X0_misfitOf 90 [] [] σ r τ := by
  unfold D_X0_misfitOf_90 at hD
  refine ev_iconst dX0_misfitOf_90 (mi_c rfl) ?_
  cases hD
  obtain ⟨rfl, rfl⟩ := hk.2 _ rfl
  exact ev_ret (some (vi _)) dX0_misfitOf_91 True.intro
def D_X0_misfitOf_44 : Nat → Nat → Nat → Int → Int → Int → Int → mS → Option (Int ⊕ Int)
  | 0, _, _, _, _, _, _, _ => none
  | f + 1, x0, x1, x2, x3, x4, x5, σ =>
    (gI σ x1 4 2).bind fun v1 =>
    if v1 ≤ x5 then
      some (Sum.inl x4)
    else
      if 6 ≤ x5 then
        some (Sum.inl x4)
      else
        (gR σ x1 4 3).bind fun v2 =>
        (lI σ v2 x5).bind fun v3 =>
        if 1000 ≤ (mw (x2 + v3)) then
          D_X0_misfitOf_90 (D_X0_misfitOf_44 f)  σ
        else
          (gR σ x0 0 1).bind fun v4 =>
          (lI σ v4 (mw (x2 + v3))).bind fun v5 =>
          if v5 ≠ ((-1)) then
            (gR σ x0 0 1).bind fun v6 =>
            (lI σ v6 (mw (x2 + v3))).bind fun v7 =>
            (gR σ x1 4 4).bind fun v8 =>
            (lI σ v8 x5).bind fun v9 =>
            (D_X0_misfitOf_44 f) x0 x1 x2 x3 (mw (x4 + (if 0 ≤ (mw ((mw (v7 + x3)) - v9)) then (mw ((mw (v7 + x3)) - v9)) else mw (0 - (mw ((mw (v7 + x3)) - v9)))))) (mw (x5 + 1)) σ
          else
            D_X0_misfitOf_90 (D_X0_misfitOf_44 f)  σ
set_option maxRecDepth 100000 in
set_option maxHeartbeats 4000000 in
theorem lk_X0_misfitOf_44 {G : mG} (f : Nat) : ∀ {x0 : Nat} {x1 : Nat} {x2 : Int} {x3 : Int} {x4 : Int} {x5 : Int} {σ : mS} {R : (Int ⊕ Int)}, D_X0_misfitOf_44 f x0 x1 x2 x3 x4 x5 σ = some R → ∀ {r : mX} {τ : mS}, (∀ z, R = (Sum.inl z) → Ev G M_X0_misfitOf 123 [(4, vi (z))] [] σ r τ) ∧ (∀ z, R = (Sum.inr z) → r = .inl (some (vi z)) ∧ τ = σ) → Ev G M_X0_misfitOf 44 [(0, vr x0), (1, vr x1), (2, vi x2), (3, vi x3), (4, vi x4), (5, vi x5)] [] σ r τ := by
  induction f with
  | zero =>
    intros
    rename_i hD _ _ _
    cases hD
  | succ f ih =>
    intro x0 x1 x2 x3 x4 x5 σ R hD r τ hk
    have hrec := @ih
    rw [D_X0_misfitOf_44] at hD
    refine ev_iload dX0_misfitOf_44 5 rfl ?_
    refine ev_aload_n dX0_misfitOf_46 1 rfl rfl ?_
    obtain ⟨v1, g, hD⟩ := bd hD
    refine ew_getI 4 2 dX0_misfitOf_47 rfl (Nat.le_of_ble_eq_true rfl) w_183 in_X4 rfl g ?_
    by_cases c : v1 ≤ x5
    · rw [if_pos c] at hD
      refine ev_icmp_ge_t (tgt := 123) dX0_misfitOf_50 (by decide) c ?_
      cases hD
      refine Ev.pick [4] rfl ?_
      exact hk.1 _ rfl
    · rw [if_neg c] at hD
      refine ev_icmp_ge_f 123 dX0_misfitOf_50 (by decide) c ?_
      refine ev_iload dX0_misfitOf_53 5 rfl ?_
      refine ev_bp dX0_misfitOf_55 rfl ?_
      by_cases c : 6 ≤ x5
      · rw [if_pos c] at hD
        refine ev_icmp_ge_t (tgt := 123) dX0_misfitOf_57 (by decide) c ?_
        cases hD
        refine Ev.pick [4] rfl ?_
        exact hk.1 _ rfl
      · rw [if_neg c] at hD
        refine ev_icmp_ge_f 123 dX0_misfitOf_57 (by decide) c ?_
        refine ev_iload_n dX0_misfitOf_60 2 rfl rfl ?_
        refine ev_aload_n dX0_misfitOf_61 1 rfl rfl ?_
        obtain ⟨v2, g, hD⟩ := bd hD
        refine ew_getR 4 3 dX0_misfitOf_62 rfl (Nat.le_of_ble_eq_true rfl) w_187 in_X4 rfl g ?_
        refine ev_iload dX0_misfitOf_65 5 rfl ?_
        obtain ⟨v3, g, hD⟩ := bd hD
        refine ew_iald dX0_misfitOf_67 g ?_
        refine ev_iadd dX0_misfitOf_68 ?_
        refine ev_istore dX0_misfitOf_69 (Nat.le_of_ble_eq_true rfl) rfl ?_
        refine ev_iload dX0_misfitOf_71 0 rfl ?_
        refine ev_sp dX0_misfitOf_73 rfl ?_
        by_cases c : 1000 ≤ (mw (x2 + v3))
        · rw [if_pos c] at hD
          refine ev_icmp_ge_t (tgt := 90) dX0_misfitOf_76 (by decide) c ?_
          refine Ev.pick [] rfl ?_
          exact lk_X0_misfitOf_90 hD hrec hk
        · rw [if_neg c] at hD
          refine ev_icmp_ge_f 90 dX0_misfitOf_76 (by decide) c ?_
          refine ev_aload_n dX0_misfitOf_79 1 rfl rfl ?_
          obtain ⟨v4, g, hD⟩ := bd hD
          refine ew_getR 0 1 dX0_misfitOf_80 rfl (Nat.le_of_ble_eq_true rfl) w_388 in_X0 rfl g ?_
          refine ev_iload dX0_misfitOf_83 0 rfl ?_
          obtain ⟨v5, g, hD⟩ := bd hD
          refine ew_iald dX0_misfitOf_85 g ?_
          refine ev_iconst dX0_misfitOf_86 (mi_c rfl) ?_
          by_cases c : v5 ≠ ((-1))
          · rw [if_pos c] at hD
            refine ev_icmp_ne_t (tgt := 92) dX0_misfitOf_87 (by decide) c ?_
            refine ev_iload dX0_misfitOf_92 5 rfl ?_
            refine ev_aload_n dX0_misfitOf_94 1 rfl rfl ?_
            obtain ⟨v6, g, hD⟩ := bd hD
            refine ew_getR 0 1 dX0_misfitOf_95 rfl (Nat.le_of_ble_eq_true rfl) w_388 in_X0 rfl g ?_
            refine ev_iload dX0_misfitOf_98 0 rfl ?_
            obtain ⟨v7, g, hD⟩ := bd hD
            refine ew_iald dX0_misfitOf_100 g ?_
            refine ev_iload_n dX0_misfitOf_101 4 rfl rfl ?_
            refine ev_iadd dX0_misfitOf_102 ?_
            refine ev_aload_n dX0_misfitOf_103 2 rfl rfl ?_
            obtain ⟨v8, g, hD⟩ := bd hD
            refine ew_getR 4 4 dX0_misfitOf_104 rfl (Nat.le_of_ble_eq_true rfl) w_190 in_X4 rfl g ?_
            refine ev_iload dX0_misfitOf_107 6 rfl ?_
            obtain ⟨v9, g, hD⟩ := bd hD
            refine ew_iald dX0_misfitOf_109 g ?_
            refine ev_isub dX0_misfitOf_110 ?_
            refine ev_mabs dX0_misfitOf_111 w_505 w_506 w_133 w_507 (Nat.le_of_ble_eq_true rfl) (Nat.le_of_ble_eq_true rfl) (Nat.le_of_ble_eq_true rfl) ?_
            refine ev_iadd dX0_misfitOf_114 ?_
            refine ev_istore dX0_misfitOf_115 (Nat.le_of_ble_eq_true rfl) rfl ?_
            refine ev_iinc dX0_misfitOf_117 6 rfl (Nat.le_of_ble_eq_true rfl) rfl ?_
            refine ev_goto (tgt := 44) dX0_misfitOf_120 (by decide) ?_
            refine Ev.pick [3, 4, 5, 6, 1, 0] rfl ?_
            exact hrec hD hk
          · rw [if_neg c] at hD
            refine ev_icmp_ne_f 92 dX0_misfitOf_87 (by decide) c ?_
            refine Ev.pick [] rfl ?_
            exact lk_X0_misfitOf_90 hD hrec hk
def D_X0_misfitOf_123 (x4 : Int) (σ : mS) : Option Int :=
  some x4
set_option maxRecDepth 100000 in
set_option maxHeartbeats 4000000 in
theorem lk_X0_misfitOf_123 {G : mG} {x4 : Int} {σ : mS} {R : Int} (hD : D_X0_misfitOf_123 x4 σ = some R) : Ev G M_X0_misfitOf 123 [(4, vi x4)] [] σ (.inl (some (vi R))) σ := by
  unfold D_X0_misfitOf_123 at hD
  refine ev_iload dX0_misfitOf_123 0 rfl ?_
  cases hD
  exact ev_ret (some (vi _)) dX0_misfitOf_125 True.intro
def D_X0_misfitOf_37 (y0 : Int) (σ : mS) : Option Int :=
  some y0
set_option maxRecDepth 100000 in
set_option maxHeartbeats 4000000 in
theorem lk_X0_misfitOf_37 {G : mG} {y0 : Int} {σ : mS} {R : Int} (hD : D_X0_misfitOf_37 y0 σ = some R) : Ev G M_X0_misfitOf 37 [] [vi y0] σ (.inl (some (vi R))) σ := by
  unfold D_X0_misfitOf_37 at hD
  cases hD
  exact ev_ret (some (vi _)) dX0_misfitOf_37 True.intro
def D_X0_misfitOf (x0 : Nat) (x1 : Nat) (x2 : Int) (x3 : Int) (σ : mS) : Option Int :=
  (gI σ x1 4 0).bind fun v1 =>
  if v1 ≠ 0 then
    (D_X0_misfitOf_44 mFU x0 x1 x2 x3 0 0 σ).bind fun r2 =>
    match r2 with
    | (Sum.inl z3) =>
      D_X0_misfitOf_123 z3 σ
    | (Sum.inr z4) =>
      some z4
  else
    (gR σ x0 0 1).bind fun v5 =>
    (lI σ v5 x2).bind fun v6 =>
    if v6 ≠ ((-1)) then
      (gR σ x0 0 1).bind fun v7 =>
      (lI σ v7 x2).bind fun v8 =>
      (gI σ x1 4 1).bind fun v9 =>
      D_X0_misfitOf_37 (if 0 ≤ (mw ((mw (v8 + x3)) - v9)) then (mw ((mw (v8 + x3)) - v9)) else mw (0 - (mw ((mw (v8 + x3)) - v9)))) σ
    else
      D_X0_misfitOf_37 ((-1)) σ
set_option maxRecDepth 100000 in
set_option maxHeartbeats 4000000 in
theorem lk_X0_misfitOf {G : mG} {x0 : Nat} {x1 : Nat} {x2 : Int} {x3 : Int} {σ : mS} {R : Int} (hD : D_X0_misfitOf x0 x1 x2 x3 σ = some R) : Ev G M_X0_misfitOf 0 [(0, vr x0), (1, vr x1), (2, vi x2), (3, vi x3)] [] σ (.inl (some (vi R))) σ := by
  unfold D_X0_misfitOf at hD
  refine ev_aload_n dX0_misfitOf_0 1 rfl rfl ?_
  obtain ⟨v1, g, hD⟩ := bd hD
  refine ew_getI 4 0 dX0_misfitOf_1 rfl (Nat.le_of_ble_eq_true rfl) w_175 in_X4 rfl g ?_
  by_cases c : v1 ≠ 0
  · rw [if_pos c] at hD
    refine ev_if_ne_t (tgt := 38) dX0_misfitOf_4 (by decide) c ?_
    refine ev_iconst dX0_misfitOf_38 (mi_c rfl) ?_
    refine ev_istore dX0_misfitOf_39 (Nat.le_of_ble_eq_true rfl) rfl ?_
    refine ev_iconst dX0_misfitOf_41 (mi_c rfl) ?_
    refine ev_istore dX0_misfitOf_42 (Nat.le_of_ble_eq_true rfl) rfl ?_
    obtain ⟨r2, g, hD⟩ := bd hD
    refine Ev.pick [2, 3, 4, 5, 1, 0] rfl ?_
    rcases r2 with z3 | z4
    · refine lk_X0_misfitOf_44 mFU g ⟨(fun _ hz => ?_), (fun _ hz => nomatch hz)⟩
      cases hz
      exact lk_X0_misfitOf_123 hD
    · refine lk_X0_misfitOf_44 mFU g ⟨(fun _ hz => nomatch hz), (fun _ hz => ?_)⟩
      cases hz
      cases hD
      exact ⟨rfl, rfl⟩
  · rw [if_neg c] at hD
    refine ev_if_ne_f 38 dX0_misfitOf_4 (by decide) c ?_
    refine ev_aload_n dX0_misfitOf_7 0 rfl rfl ?_
    obtain ⟨v5, g, hD⟩ := bd hD
    refine ew_getR 0 1 dX0_misfitOf_8 rfl (Nat.le_of_ble_eq_true rfl) w_388 in_X0 rfl g ?_
    refine ev_iload_n dX0_misfitOf_11 2 rfl rfl ?_
    obtain ⟨v6, g, hD⟩ := bd hD
    refine ew_iald dX0_misfitOf_12 g ?_
    refine ev_iconst dX0_misfitOf_13 (mi_c rfl) ?_
    by_cases c : v6 ≠ ((-1))
    · rw [if_pos c] at hD
      refine ev_icmp_ne_t (tgt := 21) dX0_misfitOf_14 (by decide) c ?_
      refine ev_aload_n dX0_misfitOf_21 0 rfl rfl ?_
      obtain ⟨v7, g, hD⟩ := bd hD
      refine ew_getR 0 1 dX0_misfitOf_22 rfl (Nat.le_of_ble_eq_true rfl) w_388 in_X0 rfl g ?_
      refine ev_iload_n dX0_misfitOf_25 2 rfl rfl ?_
      obtain ⟨v8, g, hD⟩ := bd hD
      refine ew_iald dX0_misfitOf_26 g ?_
      refine ev_iload_n dX0_misfitOf_27 3 rfl rfl ?_
      refine ev_iadd dX0_misfitOf_28 ?_
      refine ev_aload_n dX0_misfitOf_29 1 rfl rfl ?_
      obtain ⟨v9, g, hD⟩ := bd hD
      refine ew_getI 4 1 dX0_misfitOf_30 rfl (Nat.le_of_ble_eq_true rfl) w_179 in_X4 rfl g ?_
      refine ev_isub dX0_misfitOf_33 ?_
      refine ev_mabs dX0_misfitOf_34 w_505 w_506 w_133 w_507 (Nat.le_of_ble_eq_true rfl) (Nat.le_of_ble_eq_true rfl) (Nat.le_of_ble_eq_true rfl) ?_
      refine Ev.pick [] rfl ?_
      exact lk_X0_misfitOf_37 hD
    · rw [if_neg c] at hD
      refine ev_icmp_ne_f 21 dX0_misfitOf_14 (by decide) c ?_
      refine ev_iconst dX0_misfitOf_17 (mi_c rfl) ?_
      refine ev_goto (tgt := 37) dX0_misfitOf_18 (by decide) ?_
      refine Ev.pick [] rfl ?_
      exact lk_X0_misfitOf_37 hD
theorem ct_X0_misfitOf {G : mG} {x0 : Nat} {x1 : Nat} {x2 : Int} {x3 : Int} {σ : mS} {R : Int} (hD : D_X0_misfitOf x0 x1 x2 x3 σ = some R) : Ct G M_X0_misfitOf [vr x0, vr x1, vi x2, vi x3] σ (.inl (some (vi R))) σ := ct_of rfl (by decide +kernel) rfl (Nat.le_of_ble_eq_true rfl) rfl (lk_X0_misfitOf hD)
