def D_X7_nextOut_65 (rec : Nat → Int → BitVec 64 → Int → mS → Option (Unit ⊕ Int)) (x0 : Nat) (x1 : Int) (x4 : Int) (y0 : BitVec 64) (σ : mS) : Option (Unit ⊕ Int) :=
  if (mlcmp y0 (0 : BitVec 64)) = 0 then
    rec x0 x1 y0 (mw (x4 + 1)) σ
  else
    (D_J13_numberOfTrailingZeros_95d88 y0 σ).bind fun r1 =>
    some (Sum.inr (if (mw ((mw (64 * x4)) + r1)) < 1000 then (mw ((mw (64 * x4)) + r1)) else 1000))
set_option maxRecDepth 100000 in
set_option maxHeartbeats 4000000 in
theorem lk_X7_nextOut_65 {G : mG} {rec : Nat → Int → BitVec 64 → Int → mS → Option (Unit ⊕ Int)} {x0 : Nat} {x1 : Int} {x4 : Int} {y0 : BitVec 64} {σ : mS} {R : (Unit ⊕ Int)} {r : mX} {τ : mS} (hD : D_X7_nextOut_65 rec x0 x1 x4 y0 σ = some R) (hrec : ∀ {x0 : Nat} {x1 : Int} {x2 : BitVec 64} {x4 : Int} {σ : mS} {R : (Unit ⊕ Int)}, rec x0 x1 x2 x4 σ = some R → ∀ {r : mX} {τ : mS}, (∀ z, R = (Sum.inl z) → Ev G M_X7_nextOut 95 [] [] σ r τ) ∧ (∀ z, R = (Sum.inr z) → r = .inl (some (vi z)) ∧ τ = σ) → Ev G M_X7_nextOut 37 [(0, vr x0), (1, vi x1), (2, vl x2), (4, vi x4)] [] σ r τ) (hk : (∀ z, R = (Sum.inl z) → Ev G M_X7_nextOut 95 [] [] σ r τ) ∧ (∀ z, R = (Sum.inr z) → r = .inl (some (vi z)) ∧ τ = σ)) : Ev G M_X7_nextOut 65 [(0, vr x0), (1, vi x1), (4, vi x4)] [vl y0] σ r τ := by
  unfold D_X7_nextOut_65 at hD
  refine ev_lstore_n dX7_nextOut_65 rfl (Nat.le_of_ble_eq_true rfl) rfl ?_
  refine ev_lload_n dX7_nextOut_66 0 rfl rfl ?_
  refine ev_lconst (w := 0) dX7_nextOut_67 rfl ?_
  refine ev_lcmp dX7_nextOut_68 ?_
  by_cases c : (mlcmp y0 (0 : BitVec 64)) = 0
  · rw [if_pos c] at hD
    refine ev_if_eq_t (tgt := 89) dX7_nextOut_69 (by decide) c ?_
    refine ev_iinc dX7_nextOut_89 3 rfl (Nat.le_of_ble_eq_true rfl) rfl ?_
    refine ev_goto (tgt := 37) dX7_nextOut_92 (by decide) ?_
    refine Ev.pick [2, 3, 1, 0] rfl ?_
    exact hrec hD hk
  · rw [if_neg c] at hD
    refine ev_if_eq_f 89 dX7_nextOut_69 (by decide) c ?_
    refine ev_sp dX7_nextOut_72 rfl ?_
    refine ev_bp dX7_nextOut_75 rfl ?_
    refine ev_iload dX7_nextOut_77 3 rfl ?_
    refine ev_imul dX7_nextOut_79 ?_
    refine ev_lload_n dX7_nextOut_80 0 rfl rfl ?_
    obtain ⟨r1, g, hD⟩ := bd hD
    refine ew_callSv (as := [vl y0]) (rest := [vi (mw (64 * x4)), vi 1000]) dX7_nextOut_81 v_J13_numberOfTrailingZeros_95d88 w_578 rfl (Nat.le_of_ble_eq_true rfl) (Nat.le_of_ble_eq_true rfl) (Nat.le_of_ble_eq_true rfl) (ct_J13_numberOfTrailingZeros_95d88 g) ?_
    refine ev_iadd dX7_nextOut_84 ?_
    refine ev_mmin dX7_nextOut_85 w_571 w_572 w_133 w_573 (Nat.le_of_ble_eq_true rfl) (Nat.le_of_ble_eq_true rfl) (Nat.le_of_ble_eq_true rfl) ?_
    cases hD
    obtain ⟨rfl, rfl⟩ := hk.2 _ rfl
    exact ev_ret (some (vi _)) dX7_nextOut_88 True.intro
def D_X7_nextOut_37 : Nat → Nat → Int → BitVec 64 → Int → mS → Option (Unit ⊕ Int)
  | 0, _, _, _, _, _ => none
  | f + 1, x0, x1, x2, x4, σ =>
    if 16 ≤ x4 then
      some (Sum.inl ())
    else
      if x4 ≠ (mshr x1 6) then
        (lL σ x0 x4).bind fun v1 =>
        D_X7_nextOut_65 (D_X7_nextOut_37 f) x0 x1 x4 (v1 ^^^ (-1 : BitVec 64)) σ
      else
        D_X7_nextOut_65 (D_X7_nextOut_37 f) x0 x1 x4 x2 σ
set_option maxRecDepth 100000 in
set_option maxHeartbeats 4000000 in
theorem lk_X7_nextOut_37 {G : mG} (f : Nat) : ∀ {x0 : Nat} {x1 : Int} {x2 : BitVec 64} {x4 : Int} {σ : mS} {R : (Unit ⊕ Int)}, D_X7_nextOut_37 f x0 x1 x2 x4 σ = some R → ∀ {r : mX} {τ : mS}, (∀ z, R = (Sum.inl z) → Ev G M_X7_nextOut 95 [] [] σ r τ) ∧ (∀ z, R = (Sum.inr z) → r = .inl (some (vi z)) ∧ τ = σ) → Ev G M_X7_nextOut 37 [(0, vr x0), (1, vi x1), (2, vl x2), (4, vi x4)] [] σ r τ := by
  induction f with
  | zero =>
    intros
    rename_i hD _ _ _
    cases hD
  | succ f ih =>
    intro x0 x1 x2 x4 σ R hD r τ hk
    have hrec := @ih
    rw [D_X7_nextOut_37] at hD
    refine ev_iload dX7_nextOut_37 3 rfl ?_
    refine ev_bp dX7_nextOut_39 rfl ?_
    by_cases c : 16 ≤ x4
    · rw [if_pos c] at hD
      refine ev_icmp_ge_t (tgt := 95) dX7_nextOut_41 (by decide) c ?_
      cases hD
      refine Ev.pick [] rfl ?_
      exact hk.1 _ rfl
    · rw [if_neg c] at hD
      refine ev_icmp_ge_f 95 dX7_nextOut_41 (by decide) c ?_
      refine ev_iload dX7_nextOut_44 3 rfl ?_
      refine ev_iload_n dX7_nextOut_46 1 rfl rfl ?_
      refine ev_bp dX7_nextOut_47 rfl ?_
      refine ev_ishr dX7_nextOut_49 ?_
      by_cases c : x4 ≠ (mshr x1 6)
      · rw [if_pos c] at hD
        refine ev_icmp_ne_t (tgt := 57) dX7_nextOut_50 (by decide) c ?_
        refine ev_aload_n dX7_nextOut_57 0 rfl rfl ?_
        refine ev_iload dX7_nextOut_58 3 rfl ?_
        obtain ⟨v1, g, hD⟩ := bd hD
        refine ew_lald dX7_nextOut_60 g ?_
        refine ev_ldc2 dX7_nextOut_61 w_574 ?_
        refine ev_lxor dX7_nextOut_64 ?_
        refine Ev.pick [0, 1, 3] rfl ?_
        exact lk_X7_nextOut_65 hD hrec hk
      · rw [if_neg c] at hD
        refine ev_icmp_ne_f 57 dX7_nextOut_50 (by decide) c ?_
        refine ev_lload_n dX7_nextOut_53 2 rfl rfl ?_
        refine ev_goto (tgt := 65) dX7_nextOut_54 (by decide) ?_
        refine Ev.pick [0, 1, 3] rfl ?_
        exact lk_X7_nextOut_65 hD hrec hk
def D_X7_nextOut (x0 : Nat) (x1 : Int) (σ : mS) : Option Int :=
  if x1 < 1000 then
    (lL σ x0 (mshr x1 6)).bind fun v1 =>
    (D_X7_nextOut_37 mFU x0 x1 ((v1 ^^^ (-1 : BitVec 64)) &&& (mlshl (-1 : BitVec 64) (mand x1 63))) (mshr x1 6) σ).bind fun r2 =>
    match r2 with
    | (Sum.inl z3) =>
      some 1000
    | (Sum.inr z4) =>
      some z4
  else
    some 1000
set_option maxRecDepth 100000 in
set_option maxHeartbeats 4000000 in
theorem lk_X7_nextOut {G : mG} {x0 : Nat} {x1 : Int} {σ : mS} {R : Int} (hD : D_X7_nextOut x0 x1 σ = some R) : Ev G M_X7_nextOut 0 [(0, vr x0), (1, vi x1)] [] σ (.inl (some (vi R))) σ := by
  unfold D_X7_nextOut at hD
  refine ev_iload_n dX7_nextOut_0 1 rfl rfl ?_
  refine ev_sp dX7_nextOut_1 rfl ?_
  by_cases c : x1 < 1000
  · rw [if_pos c] at hD
    refine ev_icmp_lt_t (tgt := 11) dX7_nextOut_4 (by decide) c ?_
    refine ev_aload_n dX7_nextOut_11 0 rfl rfl ?_
    refine ev_iload_n dX7_nextOut_12 1 rfl rfl ?_
    refine ev_bp dX7_nextOut_13 rfl ?_
    refine ev_ishr dX7_nextOut_15 ?_
    obtain ⟨v1, g, hD⟩ := bd hD
    refine ew_lald dX7_nextOut_16 g ?_
    refine ev_ldc2 dX7_nextOut_17 w_574 ?_
    refine ev_lxor dX7_nextOut_20 ?_
    refine ev_ldc2 dX7_nextOut_21 w_574 ?_
    refine ev_iload_n dX7_nextOut_24 1 rfl rfl ?_
    refine ev_bp dX7_nextOut_25 rfl ?_
    refine ev_iand dX7_nextOut_27 ?_
    refine ev_lshl dX7_nextOut_28 ?_
    refine ev_land dX7_nextOut_29 ?_
    refine ev_lstore_n dX7_nextOut_30 rfl (Nat.le_of_ble_eq_true rfl) rfl ?_
    refine ev_iload_n dX7_nextOut_31 2 rfl rfl ?_
    refine ev_bp dX7_nextOut_32 rfl ?_
    refine ev_ishr dX7_nextOut_34 ?_
    refine ev_istore dX7_nextOut_35 (Nat.le_of_ble_eq_true rfl) rfl ?_
    obtain ⟨r2, g, hD⟩ := bd hD
    refine Ev.pick [2, 3, 1, 0] rfl ?_
    rcases r2 with z3 | z4
    · refine lk_X7_nextOut_37 mFU g ⟨(fun _ hz => ?_), (fun _ hz => nomatch hz)⟩
      cases hz
      refine ev_sp dX7_nextOut_95 rfl ?_
      cases hD
      exact ev_ret (some (vi _)) dX7_nextOut_98 True.intro
    · refine lk_X7_nextOut_37 mFU g ⟨(fun _ hz => nomatch hz), (fun _ hz => ?_)⟩
      cases hz
      cases hD
      exact ⟨rfl, rfl⟩
  · rw [if_neg c] at hD
    refine ev_icmp_lt_f 11 dX7_nextOut_4 (by decide) c ?_
    refine ev_sp dX7_nextOut_7 rfl ?_
    cases hD
    exact ev_ret (some (vi _)) dX7_nextOut_10 True.intro
theorem ct_X7_nextOut {G : mG} {x0 : Nat} {x1 : Int} {σ : mS} {R : Int} (hD : D_X7_nextOut x0 x1 σ = some R) : Ct G M_X7_nextOut [vr x0, vi x1] σ (.inl (some (vi R))) σ := ct_of rfl (by decide +kernel) rfl (Nat.le_of_ble_eq_true rfl) rfl (lk_X7_nextOut hD)
def D_X7_nextIn_57 (rec : Nat → Int → BitVec 64 → Int → mS → Option (Unit ⊕ Int)) (x0 : Nat) (x1 : Int) (x4 : Int) (y0 : BitVec 64) (σ : mS) : Option (Unit ⊕ Int) :=
  if (mlcmp y0 (0 : BitVec 64)) = 0 then
    rec x0 x1 y0 (mw (x4 + 1)) σ
  else
    (D_J13_numberOfTrailingZeros_95d88 y0 σ).bind fun r1 =>
    some (Sum.inr (mw ((mw (64 * x4)) + r1)))
set_option maxRecDepth 100000 in
set_option maxHeartbeats 4000000 in
theorem lk_X7_nextIn_57 {G : mG} {rec : Nat → Int → BitVec 64 → Int → mS → Option (Unit ⊕ Int)} {x0 : Nat} {x1 : Int} {x4 : Int} {y0 : BitVec 64} {σ : mS} {R : (Unit ⊕ Int)} {r : mX} {τ : mS} (hD : D_X7_nextIn_57 rec x0 x1 x4 y0 σ = some R) (hrec : ∀ {x0 : Nat} {x1 : Int} {x2 : BitVec 64} {x4 : Int} {σ : mS} {R : (Unit ⊕ Int)}, rec x0 x1 x2 x4 σ = some R → ∀ {r : mX} {τ : mS}, (∀ z, R = (Sum.inl z) → Ev G M_X7_nextIn 81 [] [] σ r τ) ∧ (∀ z, R = (Sum.inr z) → r = .inl (some (vi z)) ∧ τ = σ) → Ev G M_X7_nextIn 33 [(0, vr x0), (1, vi x1), (2, vl x2), (4, vi x4)] [] σ r τ) (hk : (∀ z, R = (Sum.inl z) → Ev G M_X7_nextIn 81 [] [] σ r τ) ∧ (∀ z, R = (Sum.inr z) → r = .inl (some (vi z)) ∧ τ = σ)) : Ev G M_X7_nextIn 57 [(0, vr x0), (1, vi x1), (4, vi x4)] [vl y0] σ r τ := by
  unfold D_X7_nextIn_57 at hD
  refine ev_lstore_n dX7_nextIn_57 rfl (Nat.le_of_ble_eq_true rfl) rfl ?_
  refine ev_lload_n dX7_nextIn_58 0 rfl rfl ?_
  refine ev_lconst (w := 0) dX7_nextIn_59 rfl ?_
  refine ev_lcmp dX7_nextIn_60 ?_
  by_cases c : (mlcmp y0 (0 : BitVec 64)) = 0
  · rw [if_pos c] at hD
    refine ev_if_eq_t (tgt := 75) dX7_nextIn_61 (by decide) c ?_
    refine ev_iinc dX7_nextIn_75 3 rfl (Nat.le_of_ble_eq_true rfl) rfl ?_
    refine ev_goto (tgt := 33) dX7_nextIn_78 (by decide) ?_
    refine Ev.pick [2, 3, 1, 0] rfl ?_
    exact hrec hD hk
  · rw [if_neg c] at hD
    refine ev_if_eq_f 75 dX7_nextIn_61 (by decide) c ?_
    refine ev_bp dX7_nextIn_64 rfl ?_
    refine ev_iload dX7_nextIn_66 3 rfl ?_
    refine ev_imul dX7_nextIn_68 ?_
    refine ev_lload_n dX7_nextIn_69 0 rfl rfl ?_
    obtain ⟨r1, g, hD⟩ := bd hD
    refine ew_callSv (as := [vl y0]) (rest := [vi (mw (64 * x4))]) dX7_nextIn_70 v_J13_numberOfTrailingZeros_95d88 w_578 rfl (Nat.le_of_ble_eq_true rfl) (Nat.le_of_ble_eq_true rfl) (Nat.le_of_ble_eq_true rfl) (ct_J13_numberOfTrailingZeros_95d88 g) ?_
    refine ev_iadd dX7_nextIn_73 ?_
    cases hD
    obtain ⟨rfl, rfl⟩ := hk.2 _ rfl
    exact ev_ret (some (vi _)) dX7_nextIn_74 True.intro
def D_X7_nextIn_33 : Nat → Nat → Int → BitVec 64 → Int → mS → Option (Unit ⊕ Int)
  | 0, _, _, _, _, _ => none
  | f + 1, x0, x1, x2, x4, σ =>
    if 16 ≤ x4 then
      some (Sum.inl ())
    else
      if x4 ≠ (mshr x1 6) then
        (lL σ x0 x4).bind fun v1 =>
        D_X7_nextIn_57 (D_X7_nextIn_33 f) x0 x1 x4 v1 σ
      else
        D_X7_nextIn_57 (D_X7_nextIn_33 f) x0 x1 x4 x2 σ
set_option maxRecDepth 100000 in
set_option maxHeartbeats 4000000 in
theorem lk_X7_nextIn_33 {G : mG} (f : Nat) : ∀ {x0 : Nat} {x1 : Int} {x2 : BitVec 64} {x4 : Int} {σ : mS} {R : (Unit ⊕ Int)}, D_X7_nextIn_33 f x0 x1 x2 x4 σ = some R → ∀ {r : mX} {τ : mS}, (∀ z, R = (Sum.inl z) → Ev G M_X7_nextIn 81 [] [] σ r τ) ∧ (∀ z, R = (Sum.inr z) → r = .inl (some (vi z)) ∧ τ = σ) → Ev G M_X7_nextIn 33 [(0, vr x0), (1, vi x1), (2, vl x2), (4, vi x4)] [] σ r τ := by
  induction f with
  | zero =>
    intros
    rename_i hD _ _ _
    cases hD
  | succ f ih =>
    intro x0 x1 x2 x4 σ R hD r τ hk
    have hrec := @ih
    rw [D_X7_nextIn_33] at hD
    refine ev_iload dX7_nextIn_33 3 rfl ?_
    refine ev_bp dX7_nextIn_35 rfl ?_
    by_cases c : 16 ≤ x4
    · rw [if_pos c] at hD
      refine ev_icmp_ge_t (tgt := 81) dX7_nextIn_37 (by decide) c ?_
      cases hD
      refine Ev.pick [] rfl ?_
      exact hk.1 _ rfl
    · rw [if_neg c] at hD
      refine ev_icmp_ge_f 81 dX7_nextIn_37 (by decide) c ?_
      refine ev_iload dX7_nextIn_40 3 rfl ?_
      refine ev_iload_n dX7_nextIn_42 1 rfl rfl ?_
      refine ev_bp dX7_nextIn_43 rfl ?_
      refine ev_ishr dX7_nextIn_45 ?_
      by_cases c : x4 ≠ (mshr x1 6)
      · rw [if_pos c] at hD
        refine ev_icmp_ne_t (tgt := 53) dX7_nextIn_46 (by decide) c ?_
        refine ev_aload_n dX7_nextIn_53 0 rfl rfl ?_
        refine ev_iload dX7_nextIn_54 3 rfl ?_
        obtain ⟨v1, g, hD⟩ := bd hD
        refine ew_lald dX7_nextIn_56 g ?_
        refine Ev.pick [0, 1, 3] rfl ?_
        exact lk_X7_nextIn_57 hD hrec hk
      · rw [if_neg c] at hD
        refine ev_icmp_ne_f 53 dX7_nextIn_46 (by decide) c ?_
        refine ev_lload_n dX7_nextIn_49 2 rfl rfl ?_
        refine ev_goto (tgt := 57) dX7_nextIn_50 (by decide) ?_
        refine Ev.pick [0, 1, 3] rfl ?_
        exact lk_X7_nextIn_57 hD hrec hk
def D_X7_nextIn (x0 : Nat) (x1 : Int) (σ : mS) : Option Int :=
  if x1 < 1000 then
    (lL σ x0 (mshr x1 6)).bind fun v1 =>
    (D_X7_nextIn_33 mFU x0 x1 (v1 &&& (mlshl (-1 : BitVec 64) (mand x1 63))) (mshr x1 6) σ).bind fun r2 =>
    match r2 with
    | (Sum.inl z3) =>
      some 1000
    | (Sum.inr z4) =>
      some z4
  else
    some 1000
set_option maxRecDepth 100000 in
set_option maxHeartbeats 4000000 in
theorem lk_X7_nextIn {G : mG} {x0 : Nat} {x1 : Int} {σ : mS} {R : Int} (hD : D_X7_nextIn x0 x1 σ = some R) : Ev G M_X7_nextIn 0 [(0, vr x0), (1, vi x1)] [] σ (.inl (some (vi R))) σ := by
  unfold D_X7_nextIn at hD
  refine ev_iload_n dX7_nextIn_0 1 rfl rfl ?_
  refine ev_sp dX7_nextIn_1 rfl ?_
  by_cases c : x1 < 1000
  · rw [if_pos c] at hD
    refine ev_icmp_lt_t (tgt := 11) dX7_nextIn_4 (by decide) c ?_
    refine ev_aload_n dX7_nextIn_11 0 rfl rfl ?_
    refine ev_iload_n dX7_nextIn_12 1 rfl rfl ?_
    refine ev_bp dX7_nextIn_13 rfl ?_
    refine ev_ishr dX7_nextIn_15 ?_
    obtain ⟨v1, g, hD⟩ := bd hD
    refine ew_lald dX7_nextIn_16 g ?_
    refine ev_ldc2 dX7_nextIn_17 w_574 ?_
    refine ev_iload_n dX7_nextIn_20 1 rfl rfl ?_
    refine ev_bp dX7_nextIn_21 rfl ?_
    refine ev_iand dX7_nextIn_23 ?_
    refine ev_lshl dX7_nextIn_24 ?_
    refine ev_land dX7_nextIn_25 ?_
    refine ev_lstore_n dX7_nextIn_26 rfl (Nat.le_of_ble_eq_true rfl) rfl ?_
    refine ev_iload_n dX7_nextIn_27 2 rfl rfl ?_
    refine ev_bp dX7_nextIn_28 rfl ?_
    refine ev_ishr dX7_nextIn_30 ?_
    refine ev_istore dX7_nextIn_31 (Nat.le_of_ble_eq_true rfl) rfl ?_
    obtain ⟨r2, g, hD⟩ := bd hD
    refine Ev.pick [2, 3, 1, 0] rfl ?_
    rcases r2 with z3 | z4
    · refine lk_X7_nextIn_33 mFU g ⟨(fun _ hz => ?_), (fun _ hz => nomatch hz)⟩
      cases hz
      refine ev_sp dX7_nextIn_81 rfl ?_
      cases hD
      exact ev_ret (some (vi _)) dX7_nextIn_84 True.intro
    · refine lk_X7_nextIn_33 mFU g ⟨(fun _ hz => nomatch hz), (fun _ hz => ?_)⟩
      cases hz
      cases hD
      exact ⟨rfl, rfl⟩
  · rw [if_neg c] at hD
    refine ev_icmp_lt_f 11 dX7_nextIn_4 (by decide) c ?_
    refine ev_sp dX7_nextIn_7 rfl ?_
    cases hD
    exact ev_ret (some (vi _)) dX7_nextIn_10 True.intro
theorem ct_X7_nextIn {G : mG} {x0 : Nat} {x1 : Int} {σ : mS} {R : Int} (hD : D_X7_nextIn x0 x1 σ = some R) : Ct G M_X7_nextIn [vr x0, vi x1] σ (.inl (some (vi R))) σ := ct_of rfl (by decide +kernel) rfl (Nat.le_of_ble_eq_true rfl) rfl (lk_X7_nextIn hD)
