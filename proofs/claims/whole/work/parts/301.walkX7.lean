def D_X7_clear_2 : Nat → Nat → Int → mS → Option mS
  | 0, _, _, _ => none
  | f + 1, x0, x1, σ =>
    if 16 ≤ x1 then
      some σ
    else
      (sL σ x0 x1 (0 : BitVec 64)).bind fun s1 =>
      (D_X7_clear_2 f) x0 (mw (x1 + 1)) s1
set_option maxRecDepth 100000 in
set_option maxHeartbeats 4000000 in
theorem lk_X7_clear_2 {G : mG} (f : Nat) : ∀ {x0 : Nat} {x1 : Int} {σ : mS} {R : mS}, D_X7_clear_2 f x0 x1 σ = some R → ∀ {r : mX} {τ : mS}, Ev G M_X7_clear 18 [] [] R r τ → Ev G M_X7_clear 2 [(0, vr x0), (1, vi x1)] [] σ r τ := by
  induction f with
  | zero =>
    intros
    rename_i hD _ _ _
    cases hD
  | succ f ih =>
    intro x0 x1 σ R hD r τ hk
    have hrec := @ih
    rw [D_X7_clear_2] at hD
    refine ev_iload_n dX7_clear_2 1 rfl rfl ?_
    refine ev_bp dX7_clear_3 rfl ?_
    by_cases c : 16 ≤ x1
    · rw [if_pos c] at hD
      refine ev_icmp_ge_t (tgt := 18) dX7_clear_5 (by decide) c ?_
      cases hD
      refine Ev.pick [] rfl ?_
      exact hk
    · rw [if_neg c] at hD
      refine ev_icmp_ge_f 18 dX7_clear_5 (by decide) c ?_
      refine ev_aload_n dX7_clear_8 0 rfl rfl ?_
      refine ev_iload_n dX7_clear_9 1 rfl rfl ?_
      refine ev_lconst (w := 0) dX7_clear_10 rfl ?_
      obtain ⟨s1, g, hD⟩ := bd hD
      refine ew_last dX7_clear_11 g ?_
      refine ev_iinc dX7_clear_12 1 rfl (Nat.le_of_ble_eq_true rfl) rfl ?_
      refine ev_goto (tgt := 2) dX7_clear_15 (by decide) ?_
      refine Ev.pick [1, 0] rfl ?_
      exact hrec hD hk
def D_X7_clear (x0 : Nat) (σ : mS) : Option mS :=
  (D_X7_clear_2 mFU x0 0 σ).bind fun r1 =>
  some r1
set_option maxRecDepth 100000 in
set_option maxHeartbeats 4000000 in
theorem lk_X7_clear {G : mG} {x0 : Nat} {σ : mS} {R : mS} (hD : D_X7_clear x0 σ = some R) : Ev G M_X7_clear 0 [(0, vr x0)] [] σ (.inl none) R := by
  unfold D_X7_clear at hD
  refine ev_iconst dX7_clear_0 (mi_c rfl) ?_
  refine ev_istore_n dX7_clear_1 rfl (Nat.le_of_ble_eq_true rfl) rfl ?_
  obtain ⟨r1, g, hD⟩ := bd hD
  refine Ev.pick [1, 0] rfl ?_
  refine lk_X7_clear_2 mFU g ?_
  cases hD
  exact ev_ret none dX7_clear_18 True.intro
theorem ct_X7_clear {G : mG} {x0 : Nat} {σ : mS} {R : mS} (hD : D_X7_clear x0 σ = some R) : Ct G M_X7_clear [vr x0] σ (.inl none) R := ct_of rfl (by decide +kernel) rfl (Nat.le_of_ble_eq_true rfl) rfl (lk_X7_clear hD)
def D_X7_put (x0 : Nat) (x1 : Int) (σ : mS) : Option mS :=
  (lL σ x0 (mshr x1 6)).bind fun v1 =>
  (sL σ x0 (mshr x1 6) (v1 ||| (mlshl (1 : BitVec 64) (mand x1 63)))).bind fun s2 =>
  some s2
set_option maxRecDepth 100000 in
set_option maxHeartbeats 4000000 in
theorem lk_X7_put {G : mG} {x0 : Nat} {x1 : Int} {σ : mS} {R : mS} (hD : D_X7_put x0 x1 σ = some R) : Ev G M_X7_put 0 [(0, vr x0), (1, vi x1)] [] σ (.inl none) R := by
  unfold D_X7_put at hD
  refine ev_aload_n dX7_put_0 0 rfl rfl ?_
  refine ev_iload_n dX7_put_1 1 rfl rfl ?_
  refine ev_bp dX7_put_2 rfl ?_
  refine ev_ishr dX7_put_4 ?_
  refine ev_dup2 dX7_put_5 rfl rfl ?_
  obtain ⟨v1, g, hD⟩ := bd hD
  refine ew_lald dX7_put_6 g ?_
  refine ev_lconst (w := 1) dX7_put_7 rfl ?_
  refine ev_iload_n dX7_put_8 1 rfl rfl ?_
  refine ev_bp dX7_put_9 rfl ?_
  refine ev_iand dX7_put_11 ?_
  refine ev_lshl dX7_put_12 ?_
  refine ev_lor dX7_put_13 ?_
  obtain ⟨s2, g, hD⟩ := bd hD
  refine ew_last dX7_put_14 g ?_
  cases hD
  exact ev_ret none dX7_put_15 True.intro
theorem ct_X7_put {G : mG} {x0 : Nat} {x1 : Int} {σ : mS} {R : mS} (hD : D_X7_put x0 x1 σ = some R) : Ct G M_X7_put [vr x0, vi x1] σ (.inl none) R := ct_of rfl (by decide +kernel) rfl (Nat.le_of_ble_eq_true rfl) rfl (lk_X7_put hD)
