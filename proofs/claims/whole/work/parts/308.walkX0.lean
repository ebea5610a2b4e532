def D_X0_note_65 (σ : mS) : Option mS :=
  some σ
set_option maxRecDepth 100000 in
set_option maxHeartbeats 4000000 in
theorem lk_X0_note_65 {G : mG} {σ : mS} {R : mS} (hD : D_X0_note_65  σ = some R) : Ev G M_X0_note 65 [] [] σ (.inl none) R := by
  unfold D_X0_note_65 at hD
  cases hD
  exact ev_ret none dX0_note_65 True.intro
def D_X0_note (x0 : Nat) (x1 : Int) (x2 : Int) (σ : mS) : Option mS :=
  (gR σ x0 0 4).bind fun v1 =>
  (lI σ v1 x1).bind fun v2 =>
  if v2 ≠ x2 then
    (pB σ x0 0 14 1).bind fun s3 =>
    (gR s3 x0 0 7).bind fun v4 =>
    (gI s3 x0 0 13).bind fun v5 =>
    (lI s3 v4 v5).bind fun v6 =>
    (gR s3 x0 0 4).bind fun v7 =>
    (lI s3 v7 x1).bind fun v8 =>
    (sI s3 v4 v5 (mw (v6 + (mw (x2 - v8))))).bind fun s9 =>
    (gR s9 x0 0 4).bind fun v10 =>
    (lI s9 v10 x1).bind fun v11 =>
    if v11 ≠ 0 then
      D_X0_note_65  s9
    else
      (tgO s9 x0 0).bind fun _ =>
      (D_X0_hasClash x0 s9).bind fun r12 =>
      if r12 ≠ 0 then
        D_X0_note_65  s9
      else
        (gI s9 x0 0 13).bind fun v13 =>
        (pI s9 x0 0 9 v13).bind fun s14 =>
        (pI s14 x0 0 10 x1).bind fun s15 =>
        D_X0_note_65  s15
  else
    some σ
set_option maxRecDepth 100000 in
set_option maxHeartbeats 4000000 in
theorem lk_X0_note {G : mG} {x0 : Nat} {x1 : Int} {x2 : Int} {σ : mS} {R : mS} (hD : D_X0_note x0 x1 x2 σ = some R) : Ev G M_X0_note 0 [(0, vr x0), (1, vi x1), (2, vi x2)] [] σ (.inl none) R := by
  unfold D_X0_note at hD
  refine ev_aload_n dX0_note_0 0 rfl rfl ?_
  obtain ⟨v1, g, hD⟩ := bd hD
  refine ew_getR 0 4 dX0_note_1 rfl (Nat.le_of_ble_eq_true rfl) w_394 in_X0 rfl g ?_
  refine ev_iload_n dX0_note_4 1 rfl rfl ?_
  obtain ⟨v2, g, hD⟩ := bd hD
  refine ew_iald dX0_note_5 g ?_
  refine ev_iload_n dX0_note_6 2 rfl rfl ?_
  by_cases c : v2 ≠ x2
  · rw [if_pos c] at hD
    refine ev_icmp_ne_t (tgt := 11) dX0_note_7 (by decide) c ?_
    refine ev_aload_n dX0_note_11 0 rfl rfl ?_
    refine ev_iconst dX0_note_12 (mi_c rfl) ?_
    obtain ⟨s3, g, hD⟩ := bd hD
    refine ew_putB 0 14 dX0_note_13 rfl (Nat.le_of_ble_eq_true rfl) w_411 in_X0 tyX0_ok nmX0 (Or.inl rfl) rfl g ?_
    refine ev_aload_n dX0_note_16 0 rfl rfl ?_
    obtain ⟨v4, g, hD⟩ := bd hD
    refine ew_getR 0 7 dX0_note_17 rfl (Nat.le_of_ble_eq_true rfl) w_400 in_X0 rfl g ?_
    refine ev_aload_n dX0_note_20 0 rfl rfl ?_
    obtain ⟨v5, g, hD⟩ := bd hD
    refine ew_getI 0 13 dX0_note_21 rfl (Nat.le_of_ble_eq_true rfl) w_410 in_X0 rfl g ?_
    refine ev_dup2 dX0_note_24 rfl rfl ?_
    obtain ⟨v6, g, hD⟩ := bd hD
    refine ew_iald dX0_note_25 g ?_
    refine ev_iload_n dX0_note_26 2 rfl rfl ?_
    refine ev_aload_n dX0_note_27 0 rfl rfl ?_
    obtain ⟨v7, g, hD⟩ := bd hD
    refine ew_getR 0 4 dX0_note_28 rfl (Nat.le_of_ble_eq_true rfl) w_394 in_X0 rfl g ?_
    refine ev_iload_n dX0_note_31 1 rfl rfl ?_
    obtain ⟨v8, g, hD⟩ := bd hD
    refine ew_iald dX0_note_32 g ?_
    refine ev_isub dX0_note_33 ?_
    refine ev_iadd dX0_note_34 ?_
    obtain ⟨s9, g, hD⟩ := bd hD
    refine ew_iast dX0_note_35 g ?_
    refine ev_aload_n dX0_note_36 0 rfl rfl ?_
    obtain ⟨v10, g, hD⟩ := bd hD
    refine ew_getR 0 4 dX0_note_37 rfl (Nat.le_of_ble_eq_true rfl) w_394 in_X0 rfl g ?_
    refine ev_iload_n dX0_note_40 1 rfl rfl ?_
    obtain ⟨v11, g, hD⟩ := bd hD
    refine ew_iald dX0_note_41 g ?_
    by_cases c : v11 ≠ 0
    · rw [if_pos c] at hD
      refine ev_if_ne_t (tgt := 65) dX0_note_42 (by decide) c ?_
      refine Ev.pick [] rfl ?_
      exact lk_X0_note_65 hD
    · rw [if_neg c] at hD
      refine ev_if_ne_f 65 dX0_note_42 (by decide) c ?_
      refine ev_aload_n dX0_note_45 0 rfl rfl ?_
      obtain ⟨_, g0, hD⟩ := bd hD
      obtain ⟨r12, g, hD⟩ := bd hD
      refine ew_callVv (as := []) (a := x0) (rest := []) dX0_note_46 v_X0_hasClash w_549 rfl (Nat.le_of_ble_eq_true rfl) rfl rfl g0 (Nat.le_of_ble_eq_true rfl) (Nat.le_of_ble_eq_true rfl) (ct_X0_hasClash g) ?_
      by_cases c : r12 ≠ 0
      · rw [if_pos c] at hD
        refine ev_if_ne_t (tgt := 65) dX0_note_49 (by decide) c ?_
        refine Ev.pick [] rfl ?_
        exact lk_X0_note_65 hD
      · rw [if_neg c] at hD
        refine ev_if_ne_f 65 dX0_note_49 (by decide) c ?_
        refine ev_aload_n dX0_note_52 0 rfl rfl ?_
        refine ev_aload_n dX0_note_53 0 rfl rfl ?_
        obtain ⟨v13, g, hD⟩ := bd hD
        refine ew_getI 0 13 dX0_note_54 rfl (Nat.le_of_ble_eq_true rfl) w_410 in_X0 rfl g ?_
        obtain ⟨s14, g, hD⟩ := bd hD
        refine ew_putI 0 9 dX0_note_57 rfl (Nat.le_of_ble_eq_true rfl) w_404 in_X0 tyX0_ok nmX0 (Or.inl rfl) rfl g ?_
        refine ev_aload_n dX0_note_60 0 rfl rfl ?_
        refine ev_iload_n dX0_note_61 1 rfl rfl ?_
        obtain ⟨s15, g, hD⟩ := bd hD
        refine ew_putI 0 10 dX0_note_62 rfl (Nat.le_of_ble_eq_true rfl) w_406 in_X0 tyX0_ok nmX0 (Or.inl rfl) rfl g ?_
        refine Ev.pick [] rfl ?_
        exact lk_X0_note_65 hD
  · rw [if_neg c] at hD
    refine ev_icmp_ne_f 11 dX0_note_7 (by decide) c ?_
    cases hD
    exact ev_ret none dX0_note_10 True.intro
theorem ct_X0_note {G : mG} {x0 : Nat} {x1 : Int} {x2 : Int} {σ : mS} {R : mS} (hD : D_X0_note x0 x1 x2 σ = some R) : Ct G M_X0_note [vr x0, vi x1, vi x2] σ (.inl none) R := ct_of rfl (by decide +kernel) rfl (Nat.le_of_ble_eq_true rfl) rfl (lk_X0_note hD)
def D_X0_fit_112 (σ : mS) : Option mS :=
  some σ
set_option maxRecDepth 100000 in
set_option maxHeartbeats 4000000 in
theorem lk_X0_fit_112 {G : mG} {σ : mS} {R : mS} (hD : D_X0_fit_112  σ = some R) : Ev G M_X0_fit 112 [] [] σ (.inl none) R := by
  unfold D_X0_fit_112 at hD
  cases hD
  exact ev_ret none dX0_fit_112 True.intro
def D_X0_fit_234 (x0 : Nat) (x1 : Int) (σ : mS) : Option mS :=
  (gR σ x0 0 4).bind fun v1 =>
  (lI σ v1 x1).bind fun v2 =>
  (gR σ x0 0 12).bind fun v3 =>
  (tgO σ x0 0).bind fun _ =>
  (D_X0_keepOnly x0 x1 v3 σ).bind fun r4 =>
  (tgO r4 x0 0).bind fun _ =>
  (D_X0_note x0 x1 v2 r4).bind fun r5 =>
  some r5
set_option maxRecDepth 100000 in
set_option maxHeartbeats 4000000 in
theorem lk_X0_fit_234 {G : mG} {x0 : Nat} {x1 : Int} {σ : mS} {R : mS} (hD : D_X0_fit_234 x0 x1 σ = some R) : Ev G M_X0_fit 234 [(0, vr x0), (1, vi x1)] [] σ (.inl none) R := by
  unfold D_X0_fit_234 at hD
  refine ev_aload_n dX0_fit_234 0 rfl rfl ?_
  obtain ⟨v1, g, hD⟩ := bd hD
  refine ew_getR 0 4 dX0_fit_235 rfl (Nat.le_of_ble_eq_true rfl) w_394 in_X0 rfl g ?_
  refine ev_iload_n dX0_fit_238 1 rfl rfl ?_
  obtain ⟨v2, g, hD⟩ := bd hD
  refine ew_iald dX0_fit_239 g ?_
  refine ev_istore dX0_fit_240 (Nat.le_of_ble_eq_true rfl) rfl ?_
  refine ev_aload_n dX0_fit_242 1 rfl rfl ?_
  refine ev_iload_n dX0_fit_243 2 rfl rfl ?_
  refine ev_aload_n dX0_fit_244 1 rfl rfl ?_
  obtain ⟨v3, g, hD⟩ := bd hD
  refine ew_getR 0 12 dX0_fit_245 rfl (Nat.le_of_ble_eq_true rfl) w_409 in_X0 rfl g ?_
  obtain ⟨_, g0, hD⟩ := bd hD
  obtain ⟨r4, g, hD⟩ := bd hD
  refine ew_callV0 (as := [vi x1, vr v3]) (a := x0) (rest := []) dX0_fit_248 v_X0_keepOnly w_526 rfl (Nat.le_of_ble_eq_true rfl) rfl rfl g0 (Nat.le_of_ble_eq_true rfl) (Nat.le_of_ble_eq_true rfl) (ct_X0_keepOnly g) ?_
  refine ev_aload_n dX0_fit_251 1 rfl rfl ?_
  refine ev_iload_n dX0_fit_252 2 rfl rfl ?_
  refine ev_iload dX0_fit_253 0 rfl ?_
  obtain ⟨_, g0, hD⟩ := bd hD
  obtain ⟨r5, g, hD⟩ := bd hD
  refine ew_callV0 (as := [vi x1, vi v2]) (a := x0) (rest := []) dX0_fit_255 v_X0_note w_582 rfl (Nat.le_of_ble_eq_true rfl) rfl rfl g0 (Nat.le_of_ble_eq_true rfl) (Nat.le_of_ble_eq_true rfl) (ct_X0_note g) ?_
  cases hD
  exact ev_ret none dX0_fit_258 True.intro
def D_X0_fit_168 : Nat → Nat → Int → Int → Int → Int → Int → mS → Option mS
  | 0, _, _, _, _, _, _, _ => none
  | f + 1, x0, x2, x3, x4, x9, x10, σ =>
    if 1000 ≤ x10 then
      some σ
    else
      if 1000 ≤ x9 then
        some σ
      else
        (gR σ x0 0 3).bind fun v1 =>
        (lR σ v1 x2).bind fun v2 =>
        (D_X7_nextOut v2 x9 σ).bind fun r3 =>
        (gR σ x0 0 12).bind fun v4 =>
        (D_X7_putAll v4 (mw (x9 + x3)) (mw ((mw (r3 - 1)) + x4)) σ).bind fun r5 =>
        (gR r5 x0 0 3).bind fun v6 =>
        (lR r5 v6 x2).bind fun v7 =>
        (D_X7_nextIn v7 r3 r5).bind fun r8 =>
        (D_X0_fit_168 f) x0 x2 x3 x4 r8 (mw (x10 + 1)) r5
set_option maxRecDepth 100000 in
set_option maxHeartbeats 4000000 in
theorem lk_X0_fit_168 {G : mG} {x1 : Int} (f : Nat) : ∀ {x0 : Nat} {x2 : Int} {x3 : Int} {x4 : Int} {x9 : Int} {x10 : Int} {σ : mS} {R : mS}, D_X0_fit_168 f x0 x2 x3 x4 x9 x10 σ = some R → ∀ {r : mX} {τ : mS}, Ev G M_X0_fit 234 [(0, vr x0), (1, vi x1)] [] R r τ → Ev G M_X0_fit 168 [(0, vr x0), (1, vi x1), (2, vi x2), (3, vi x3), (4, vi x4), (9, vi x9), (10, vi x10)] [] σ r τ := by
  induction f with
  | zero =>
    intros
    rename_i hD _ _ _
    cases hD
  | succ f ih =>
    intro x0 x2 x3 x4 x9 x10 σ R hD r τ hk
    have hrec := @ih
    rw [D_X0_fit_168] at hD
    refine ev_iload dX0_fit_168 6 rfl ?_
    refine ev_sp dX0_fit_170 rfl ?_
    by_cases c : 1000 ≤ x10
    · rw [if_pos c] at hD
      refine ev_icmp_ge_t (tgt := 234) dX0_fit_173 (by decide) c ?_
      cases hD
      refine Ev.pick [0, 1] rfl ?_
      exact hk
    · rw [if_neg c] at hD
      refine ev_icmp_ge_f 234 dX0_fit_173 (by decide) c ?_
      refine ev_iload dX0_fit_176 5 rfl ?_
      refine ev_sp dX0_fit_178 rfl ?_
      by_cases c : 1000 ≤ x9
      · rw [if_pos c] at hD
        refine ev_icmp_ge_t (tgt := 234) dX0_fit_181 (by decide) c ?_
        cases hD
        refine Ev.pick [0, 1] rfl ?_
        exact hk
      · rw [if_neg c] at hD
        refine ev_icmp_ge_f 234 dX0_fit_181 (by decide) c ?_
        refine ev_aload_n dX0_fit_184 0 rfl rfl ?_
        obtain ⟨v1, g, hD⟩ := bd hD
        refine ew_getR 0 3 dX0_fit_185 rfl (Nat.le_of_ble_eq_true rfl) w_391 in_X0 rfl g ?_
        refine ev_iload_n dX0_fit_188 2 rfl rfl ?_
        obtain ⟨v2, g, hD⟩ := bd hD
        refine ew_aald dX0_fit_189 g ?_
        refine ev_iload dX0_fit_190 5 rfl ?_
        obtain ⟨r3, g, hD⟩ := bd hD
        refine ew_callSv (as := [vr v2, vi x9]) (rest := []) dX0_fit_192 v_X7_nextOut w_575 rfl (Nat.le_of_ble_eq_true rfl) (Nat.le_of_ble_eq_true rfl) (Nat.le_of_ble_eq_true rfl) (ct_X7_nextOut g) ?_
        refine ev_istore dX0_fit_195 (Nat.le_of_ble_eq_true rfl) rfl ?_
        refine ev_aload_n dX0_fit_197 1 rfl rfl ?_
        obtain ⟨v4, g, hD⟩ := bd hD
        refine ew_getR 0 12 dX0_fit_198 rfl (Nat.le_of_ble_eq_true rfl) w_409 in_X0 rfl g ?_
        refine ev_iload dX0_fit_201 6 rfl ?_
        refine ev_iload_n dX0_fit_203 4 rfl rfl ?_
        refine ev_iadd dX0_fit_204 ?_
        refine ev_iload dX0_fit_205 0 rfl ?_
        refine ev_iconst dX0_fit_207 (mi_c rfl) ?_
        refine ev_isub dX0_fit_208 ?_
        refine ev_iload dX0_fit_209 5 rfl ?_
        refine ev_iadd dX0_fit_211 ?_
        obtain ⟨r5, g, hD⟩ := bd hD
        refine ew_callS0 (as := [vr v4, vi (mw (x9 + x3)), vi (mw ((mw (r3 - 1)) + x4))]) (rest := []) dX0_fit_212 v_X7_putAll w_565 rfl (Nat.le_of_ble_eq_true rfl) (Nat.le_of_ble_eq_true rfl) (Nat.le_of_ble_eq_true rfl) (ct_X7_putAll g) ?_
        refine ev_aload_n dX0_fit_215 1 rfl rfl ?_
        obtain ⟨v6, g, hD⟩ := bd hD
        refine ew_getR 0 3 dX0_fit_216 rfl (Nat.le_of_ble_eq_true rfl) w_391 in_X0 rfl g ?_
        refine ev_iload_n dX0_fit_219 3 rfl rfl ?_
        obtain ⟨v7, g, hD⟩ := bd hD
        refine ew_aald dX0_fit_220 g ?_
        refine ev_iload dX0_fit_221 0 rfl ?_
        obtain ⟨r8, g, hD⟩ := bd hD
        refine ew_callSv (as := [vr v7, vi r3]) (rest := []) dX0_fit_223 v_X7_nextIn w_579 rfl (Nat.le_of_ble_eq_true rfl) (Nat.le_of_ble_eq_true rfl) (Nat.le_of_ble_eq_true rfl) (ct_X7_nextIn g) ?_
        refine ev_istore dX0_fit_226 (Nat.le_of_ble_eq_true rfl) rfl ?_
        refine ev_iinc dX0_fit_228 7 rfl (Nat.le_of_ble_eq_true rfl) rfl ?_
        refine ev_goto (tgt := 168) dX0_fit_231 (by decide) ?_
        refine Ev.pick [3, 4, 5, 6, 7, 1, 0] rfl ?_
        exact hrec hD hk
def D_X0_fit_148 (x0 : Nat) (x1 : Int) (x2 : Int) (x3 : Int) (x4 : Int) (σ : mS) : Option mS :=
  (gR σ x0 0 4).bind fun v1 =>
  (lI σ v1 x2).bind fun v2 =>
  if v2 ≤ 0 then
    D_X0_fit_234 x0 x1 σ
  else
    (gR σ x0 0 5).bind fun v3 =>
    (lI σ v3 x2).bind fun v4 =>
    (D_X0_fit_168 mFU x0 x2 x3 x4 v4 0 σ).bind fun r5 =>
    D_X0_fit_234 x0 x1 r5
set_option maxRecDepth 100000 in
set_option maxHeartbeats 4000000 in
theorem lk_X0_fit_148 {G : mG} {x0 : Nat} {x1 : Int} {x2 : Int} {x3 : Int} {x4 : Int} {σ : mS} {R : mS} (hD : D_X0_fit_148 x0 x1 x2 x3 x4 σ = some R) : Ev G M_X0_fit 148 [(0, vr x0), (1, vi x1), (2, vi x2), (3, vi x3), (4, vi x4)] [] σ (.inl none) R := by
  unfold D_X0_fit_148 at hD
  refine ev_aload_n dX0_fit_148 0 rfl rfl ?_
  obtain ⟨v1, g, hD⟩ := bd hD
  refine ew_getR 0 4 dX0_fit_149 rfl (Nat.le_of_ble_eq_true rfl) w_394 in_X0 rfl g ?_
  refine ev_iload_n dX0_fit_152 2 rfl rfl ?_
  obtain ⟨v2, g, hD⟩ := bd hD
  refine ew_iald dX0_fit_153 g ?_
  by_cases c : v2 ≤ 0
  · rw [if_pos c] at hD
    refine ev_if_le_t (tgt := 234) dX0_fit_154 (by decide) c ?_
    refine Ev.pick [0, 1] rfl ?_
    exact lk_X0_fit_234 hD
  · rw [if_neg c] at hD
    refine ev_if_le_f 234 dX0_fit_154 (by decide) c ?_
    refine ev_aload_n dX0_fit_157 0 rfl rfl ?_
    obtain ⟨v3, g, hD⟩ := bd hD
    refine ew_getR 0 5 dX0_fit_158 rfl (Nat.le_of_ble_eq_true rfl) w_396 in_X0 rfl g ?_
    refine ev_iload_n dX0_fit_161 2 rfl rfl ?_
    obtain ⟨v4, g, hD⟩ := bd hD
    refine ew_iald dX0_fit_162 g ?_
    refine ev_istore dX0_fit_163 (Nat.le_of_ble_eq_true rfl) rfl ?_
    refine ev_iconst dX0_fit_165 (mi_c rfl) ?_
    refine ev_istore dX0_fit_166 (Nat.le_of_ble_eq_true rfl) rfl ?_
    obtain ⟨r5, g, hD⟩ := bd hD
    refine Ev.pick [2, 3, 4, 5, 6, 1, 0] rfl ?_
    refine lk_X0_fit_168 mFU g ?_
    exact lk_X0_fit_234 hD
def D_X0_fit_113 (x0 : Nat) (x1 : Int) (x2 : Int) (x3 : Int) (x4 : Int) (x5 : Int) (x6 : Int) (x8 : Int) (σ : mS) : Option mS :=
  (gR σ x0 0 12).bind fun v1 =>
  (D_X7_clear v1 σ).bind fun r2 =>
  (gR r2 x0 0 4).bind fun v3 =>
  (lI r2 v3 x2).bind fun v4 =>
  if v4 ≤ 0 then
    D_X0_fit_148 x0 x1 x2 x3 x4 r2
  else
    if x8 = 0 then
      D_X0_fit_148 x0 x1 x2 x3 x4 r2
    else
      (gR r2 x0 0 12).bind fun v5 =>
      (D_X7_putAll v5 x5 x6 r2).bind fun r6 =>
      D_X0_fit_234 x0 x1 r6
set_option maxRecDepth 100000 in
set_option maxHeartbeats 4000000 in
theorem lk_X0_fit_113 {G : mG} {x0 : Nat} {x1 : Int} {x2 : Int} {x3 : Int} {x4 : Int} {x5 : Int} {x6 : Int} {x8 : Int} {σ : mS} {R : mS} (hD : D_X0_fit_113 x0 x1 x2 x3 x4 x5 x6 x8 σ = some R) : Ev G M_X0_fit 113 [(0, vr x0), (1, vi x1), (2, vi x2), (3, vi x3), (4, vi x4), (5, vi x5), (6, vi x6), (8, vi x8)] [] σ (.inl none) R := by
  unfold D_X0_fit_113 at hD
  refine ev_aload_n dX0_fit_113 0 rfl rfl ?_
  obtain ⟨v1, g, hD⟩ := bd hD
  refine ew_getR 0 12 dX0_fit_114 rfl (Nat.le_of_ble_eq_true rfl) w_409 in_X0 rfl g ?_
  obtain ⟨r2, g, hD⟩ := bd hD
  refine ew_callS0 (as := [vr v1]) (rest := []) dX0_fit_117 v_X7_clear w_493 rfl (Nat.le_of_ble_eq_true rfl) (Nat.le_of_ble_eq_true rfl) (Nat.le_of_ble_eq_true rfl) (ct_X7_clear g) ?_
  refine ev_aload_n dX0_fit_120 0 rfl rfl ?_
  obtain ⟨v3, g, hD⟩ := bd hD
  refine ew_getR 0 4 dX0_fit_121 rfl (Nat.le_of_ble_eq_true rfl) w_394 in_X0 rfl g ?_
  refine ev_iload_n dX0_fit_124 2 rfl rfl ?_
  obtain ⟨v4, g, hD⟩ := bd hD
  refine ew_iald dX0_fit_125 g ?_
  by_cases c : v4 ≤ 0
  · rw [if_pos c] at hD
    refine ev_if_le_t (tgt := 148) dX0_fit_126 (by decide) c ?_
    refine Ev.pick [0, 1, 2, 3, 4] rfl ?_
    exact lk_X0_fit_148 hD
  · rw [if_neg c] at hD
    refine ev_if_le_f 148 dX0_fit_126 (by decide) c ?_
    refine ev_iload dX0_fit_129 7 rfl ?_
    by_cases c : x8 = 0
    · rw [if_pos c] at hD
      refine ev_if_eq_t (tgt := 148) dX0_fit_131 (by decide) c ?_
      refine Ev.pick [0, 1, 2, 3, 4] rfl ?_
      exact lk_X0_fit_148 hD
    · rw [if_neg c] at hD
      refine ev_if_eq_f 148 dX0_fit_131 (by decide) c ?_
      refine ev_aload_n dX0_fit_134 0 rfl rfl ?_
      obtain ⟨v5, g, hD⟩ := bd hD
      refine ew_getR 0 12 dX0_fit_135 rfl (Nat.le_of_ble_eq_true rfl) w_409 in_X0 rfl g ?_
      refine ev_iload dX0_fit_138 5 rfl ?_
      refine ev_iload dX0_fit_140 6 rfl ?_
      obtain ⟨r6, g, hD⟩ := bd hD
      refine ew_callS0 (as := [vr v5, vi x5, vi x6]) (rest := []) dX0_fit_142 v_X7_putAll w_565 rfl (Nat.le_of_ble_eq_true rfl) (Nat.le_of_ble_eq_true rfl) (Nat.le_of_ble_eq_true rfl) (ct_X7_putAll g) ?_
      refine ev_goto (tgt := 234) dX0_fit_145 (by decide) ?_
      refine Ev.pick [0, 1] rfl ?_
      exact lk_X0_fit_234 hD
def D_X0_fit_65 (x0 : Nat) (x1 : Int) (x2 : Int) (x3 : Int) (x4 : Int) (x5 : Int) (x6 : Int) (y0 : Int) (σ : mS) : Option mS :=
  (gR σ x0 0 4).bind fun v1 =>
  (lI σ v1 x1).bind fun v2 =>
  if v2 = 0 then
    D_X0_fit_112  σ
  else
    (gR σ x0 0 4).bind fun v3 =>
    (lI σ v3 x2).bind fun v4 =>
    if v4 ≤ 0 then
      D_X0_fit_113 x0 x1 x2 x3 x4 x5 x6 y0 σ
    else
      if y0 = 0 then
        D_X0_fit_113 x0 x1 x2 x3 x4 x5 x6 y0 σ
      else
        (gR σ x0 0 5).bind fun v5 =>
        (lI σ v5 x1).bind fun v6 =>
        if v6 < x5 then
          D_X0_fit_113 x0 x1 x2 x3 x4 x5 x6 y0 σ
        else
          (gR σ x0 0 6).bind fun v7 =>
          (lI σ v7 x1).bind fun v8 =>
          if x6 < v8 then
            D_X0_fit_113 x0 x1 x2 x3 x4 x5 x6 y0 σ
          else
            D_X0_fit_112  σ
set_option maxRecDepth 100000 in
set_option maxHeartbeats 4000000 in
theorem lk_X0_fit_65 {G : mG} {x0 : Nat} {x1 : Int} {x2 : Int} {x3 : Int} {x4 : Int} {x5 : Int} {x6 : Int} {y0 : Int} {σ : mS} {R : mS} (hD : D_X0_fit_65 x0 x1 x2 x3 x4 x5 x6 y0 σ = some R) : Ev G M_X0_fit 65 [(0, vr x0), (1, vi x1), (2, vi x2), (3, vi x3), (4, vi x4), (5, vi x5), (6, vi x6)] [vi y0] σ (.inl none) R := by
  unfold D_X0_fit_65 at hD
  refine ev_istore dX0_fit_65 (Nat.le_of_ble_eq_true rfl) rfl ?_
  refine ev_aload_n dX0_fit_67 1 rfl rfl ?_
  obtain ⟨v1, g, hD⟩ := bd hD
  refine ew_getR 0 4 dX0_fit_68 rfl (Nat.le_of_ble_eq_true rfl) w_394 in_X0 rfl g ?_
  refine ev_iload_n dX0_fit_71 2 rfl rfl ?_
  obtain ⟨v2, g, hD⟩ := bd hD
  refine ew_iald dX0_fit_72 g ?_
  by_cases c : v2 = 0
  · rw [if_pos c] at hD
    refine ev_if_eq_t (tgt := 112) dX0_fit_73 (by decide) c ?_
    refine Ev.pick [] rfl ?_
    exact lk_X0_fit_112 hD
  · rw [if_neg c] at hD
    refine ev_if_eq_f 112 dX0_fit_73 (by decide) c ?_
    refine ev_aload_n dX0_fit_76 1 rfl rfl ?_
    obtain ⟨v3, g, hD⟩ := bd hD
    refine ew_getR 0 4 dX0_fit_77 rfl (Nat.le_of_ble_eq_true rfl) w_394 in_X0 rfl g ?_
    refine ev_iload_n dX0_fit_80 3 rfl rfl ?_
    obtain ⟨v4, g, hD⟩ := bd hD
    refine ew_iald dX0_fit_81 g ?_
    by_cases c : v4 ≤ 0
    · rw [if_pos c] at hD
      refine ev_if_le_t (tgt := 113) dX0_fit_82 (by decide) c ?_
      refine Ev.pick [1, 2, 3, 4, 5, 6, 7, 0] rfl ?_
      exact lk_X0_fit_113 hD
    · rw [if_neg c] at hD
      refine ev_if_le_f 113 dX0_fit_82 (by decide) c ?_
      refine ev_iload dX0_fit_85 0 rfl ?_
      by_cases c : y0 = 0
      · rw [if_pos c] at hD
        refine ev_if_eq_t (tgt := 113) dX0_fit_87 (by decide) c ?_
        refine Ev.pick [1, 2, 3, 4, 5, 6, 7, 0] rfl ?_
        exact lk_X0_fit_113 hD
      · rw [if_neg c] at hD
        refine ev_if_eq_f 113 dX0_fit_87 (by decide) c ?_
        refine ev_iload dX0_fit_90 6 rfl ?_
        refine ev_aload_n dX0_fit_92 1 rfl rfl ?_
        obtain ⟨v5, g, hD⟩ := bd hD
        refine ew_getR 0 5 dX0_fit_93 rfl (Nat.le_of_ble_eq_true rfl) w_396 in_X0 rfl g ?_
        refine ev_iload_n dX0_fit_96 2 rfl rfl ?_
        obtain ⟨v6, g, hD⟩ := bd hD
        refine ew_iald dX0_fit_97 g ?_
        by_cases c : v6 < x5
        · rw [if_pos c] at hD
          refine ev_icmp_gt_t (tgt := 113) dX0_fit_98 (by decide) c ?_
          refine Ev.pick [1, 2, 3, 4, 5, 6, 7, 0] rfl ?_
          exact lk_X0_fit_113 hD
        · rw [if_neg c] at hD
          refine ev_icmp_gt_f 113 dX0_fit_98 (by decide) c ?_
          refine ev_iload dX0_fit_101 7 rfl ?_
          refine ev_aload_n dX0_fit_103 1 rfl rfl ?_
          obtain ⟨v7, g, hD⟩ := bd hD
          refine ew_getR 0 6 dX0_fit_104 rfl (Nat.le_of_ble_eq_true rfl) w_398 in_X0 rfl g ?_
          refine ev_iload_n dX0_fit_107 2 rfl rfl ?_
          obtain ⟨v8, g, hD⟩ := bd hD
          refine ew_iald dX0_fit_108 g ?_
          by_cases c : x6 < v8
          · rw [if_pos c] at hD
            refine ev_icmp_lt_t (tgt := 113) dX0_fit_109 (by decide) c ?_
            refine Ev.pick [1, 2, 3, 4, 5, 6, 7, 0] rfl ?_
            exact lk_X0_fit_113 hD
          · rw [if_neg c] at hD
            refine ev_icmp_lt_f 113 dX0_fit_109 (by decide) c ?_
            refine Ev.pick [] rfl ?_
            exact lk_X0_fit_112 hD
def D_X0_fit_60 (x0 : Nat) (x1 : Int) (x2 : Int) (x3 : Int) (x4 : Int) (x5 : Int) (x6 : Int) (σ : mS) : Option mS :=
  D_X0_fit_65 x0 x1 x2 x3 x4 x5 x6 1 σ
set_option maxRecDepth 100000 in
set_option maxHeartbeats 4000000 in
theorem lk_X0_fit_60 {G : mG} {x0 : Nat} {x1 : Int} {x2 : Int} {x3 : Int} {x4 : Int} {x5 : Int} {x6 : Int} {σ : mS} {R : mS} (hD : D_X0_fit_60 x0 x1 x2 x3 x4 x5 x6 σ = some R) : Ev G M_X0_fit 60 [(0, vr x0), (1, vi x1), (2, vi x2), (3, vi x3), (4, vi x4), (5, vi x5), (6, vi x6)] [] σ (.inl none) R := by
  unfold D_X0_fit_60 at hD
  refine ev_iconst dX0_fit_60 (mi_c rfl) ?_
  refine ev_goto (tgt := 65) dX0_fit_61 (by decide) ?_
  exact lk_X0_fit_65 hD
def D_X0_fit (x0 : Nat) (x1 : Int) (x2 : Int) (x3 : Int) (x4 : Int) (σ : mS) : Option mS :=
  (gR σ x0 0 5).bind fun v1 =>
  (lI σ v1 x2).bind fun v2 =>
  (gR σ x0 0 6).bind fun v3 =>
  (lI σ v3 x2).bind fun v4 =>
  (gR σ x0 0 6).bind fun v5 =>
  (lI σ v5 x2).bind fun v6 =>
  (gR σ x0 0 5).bind fun v7 =>
  (lI σ v7 x2).bind fun v8 =>
  (gR σ x0 0 4).bind fun v9 =>
  (lI σ v9 x2).bind fun v10 =>
  if (mw (v6 - v8)) = (mw (v10 - 1)) then
    D_X0_fit_60 x0 x1 x2 x3 x4 (mw (v2 + x3)) (mw (v4 + x4)) σ
  else
    if (mw (x4 - x3)) < (mw ((mw (v6 - v8)) - 1)) then
      D_X0_fit_65 x0 x1 x2 x3 x4 (mw (v2 + x3)) (mw (v4 + x4)) 0 σ
    else
      D_X0_fit_60 x0 x1 x2 x3 x4 (mw (v2 + x3)) (mw (v4 + x4)) σ
set_option maxRecDepth 100000 in
set_option maxHeartbeats 4000000 in
theorem lk_X0_fit {G : mG} {x0 : Nat} {x1 : Int} {x2 : Int} {x3 : Int} {x4 : Int} {σ : mS} {R : mS} (hD : D_X0_fit x0 x1 x2 x3 x4 σ = some R) : Ev G M_X0_fit 0 [(0, vr x0), (1, vi x1), (2, vi x2), (3, vi x3), (4, vi x4)] [] σ (.inl none) R := by
  unfold D_X0_fit at hD
  refine ev_aload_n dX0_fit_0 0 rfl rfl ?_
  obtain ⟨v1, g, hD⟩ := bd hD
  refine ew_getR 0 5 dX0_fit_1 rfl (Nat.le_of_ble_eq_true rfl) w_396 in_X0 rfl g ?_
  refine ev_iload_n dX0_fit_4 2 rfl rfl ?_
  obtain ⟨v2, g, hD⟩ := bd hD
  refine ew_iald dX0_fit_5 g ?_
  refine ev_iload_n dX0_fit_6 3 rfl rfl ?_
  refine ev_iadd dX0_fit_7 ?_
  refine ev_istore dX0_fit_8 (Nat.le_of_ble_eq_true rfl) rfl ?_
  refine ev_aload_n dX0_fit_10 1 rfl rfl ?_
  obtain ⟨v3, g, hD⟩ := bd hD
  refine ew_getR 0 6 dX0_fit_11 rfl (Nat.le_of_ble_eq_true rfl) w_398 in_X0 rfl g ?_
  refine ev_iload_n dX0_fit_14 3 rfl rfl ?_
  obtain ⟨v4, g, hD⟩ := bd hD
  refine ew_iald dX0_fit_15 g ?_
  refine ev_iload dX0_fit_16 5 rfl ?_
  refine ev_iadd dX0_fit_18 ?_
  refine ev_istore dX0_fit_19 (Nat.le_of_ble_eq_true rfl) rfl ?_
  refine ev_aload_n dX0_fit_21 2 rfl rfl ?_
  obtain ⟨v5, g, hD⟩ := bd hD
  refine ew_getR 0 6 dX0_fit_22 rfl (Nat.le_of_ble_eq_true rfl) w_398 in_X0 rfl g ?_
  refine ev_iload_n dX0_fit_25 4 rfl rfl ?_
  obtain ⟨v6, g, hD⟩ := bd hD
  refine ew_iald dX0_fit_26 g ?_
  refine ev_aload_n dX0_fit_27 2 rfl rfl ?_
  obtain ⟨v7, g, hD⟩ := bd hD
  refine ew_getR 0 5 dX0_fit_28 rfl (Nat.le_of_ble_eq_true rfl) w_396 in_X0 rfl g ?_
  refine ev_iload_n dX0_fit_31 4 rfl rfl ?_
  obtain ⟨v8, g, hD⟩ := bd hD
  refine ew_iald dX0_fit_32 g ?_
  refine ev_isub dX0_fit_33 ?_
  refine ev_istore dX0_fit_34 (Nat.le_of_ble_eq_true rfl) rfl ?_
  refine ev_iload dX0_fit_36 0 rfl ?_
  refine ev_aload_n dX0_fit_38 3 rfl rfl ?_
  obtain ⟨v9, g, hD⟩ := bd hD
  refine ew_getR 0 4 dX0_fit_39 rfl (Nat.le_of_ble_eq_true rfl) w_394 in_X0 rfl g ?_
  refine ev_iload_n dX0_fit_42 5 rfl rfl ?_
  obtain ⟨v10, g, hD⟩ := bd hD
  refine ew_iald dX0_fit_43 g ?_
  refine ev_iconst dX0_fit_44 (mi_c rfl) ?_
  refine ev_isub dX0_fit_45 ?_
  by_cases c : (mw (v6 - v8)) = (mw (v10 - 1))
  · rw [if_pos c] at hD
    refine ev_icmp_eq_t (tgt := 60) dX0_fit_46 (by decide) c ?_
    refine Ev.pick [3, 4, 5, 6, 7, 2, 1] rfl ?_
    exact lk_X0_fit_60 hD
  · rw [if_neg c] at hD
    refine ev_icmp_eq_f 60 dX0_fit_46 (by decide) c ?_
    refine ev_iload dX0_fit_49 7 rfl ?_
    refine ev_iload_n dX0_fit_51 6 rfl rfl ?_
    refine ev_isub dX0_fit_52 ?_
    refine ev_iload dX0_fit_53 0 rfl ?_
    refine ev_iconst dX0_fit_55 (mi_c rfl) ?_
    refine ev_isub dX0_fit_56 ?_
    by_cases c : (mw (x4 - x3)) < (mw ((mw (v6 - v8)) - 1))
    · rw [if_pos c] at hD
      refine ev_icmp_lt_t (tgt := 64) dX0_fit_57 (by decide) c ?_
      refine ev_iconst dX0_fit_64 (mi_c rfl) ?_
      refine Ev.pick [3, 4, 5, 6, 7, 2, 1] rfl ?_
      exact lk_X0_fit_65 hD
    · rw [if_neg c] at hD
      refine ev_icmp_lt_f 64 dX0_fit_57 (by decide) c ?_
      refine Ev.pick [3, 4, 5, 6, 7, 2, 1] rfl ?_
      exact lk_X0_fit_60 hD
theorem ct_X0_fit {G : mG} {x0 : Nat} {x1 : Int} {x2 : Int} {x3 : Int} {x4 : Int} {σ : mS} {R : mS} (hD : D_X0_fit x0 x1 x2 x3 x4 σ = some R) : Ct G M_X0_fit [vr x0, vi x1, vi x2, vi x3, vi x4] σ (.inl none) R := ct_of rfl (by decide +kernel) rfl (Nat.le_of_ble_eq_true rfl) rfl (lk_X0_fit hD)
def D_X0_limit (x0 : Nat) (x1 : Int) (x2 : Int) (x3 : Int) (σ : mS) : Option mS :=
  (gR σ x0 0 12).bind fun v1 =>
  (D_X7_clear v1 σ).bind fun r2 =>
  (gR r2 x0 0 12).bind fun v3 =>
  (D_X7_putAll v3 x2 x3 r2).bind fun r4 =>
  (gR r4 x0 0 4).bind fun v5 =>
  (lI r4 v5 x1).bind fun v6 =>
  (gR r4 x0 0 12).bind fun v7 =>
  (tgO r4 x0 0).bind fun _ =>
  (D_X0_keepOnly x0 x1 v7 r4).bind fun r8 =>
  (tgO r8 x0 0).bind fun _ =>
  (D_X0_note x0 x1 v6 r8).bind fun r9 =>
  some r9
set_option maxRecDepth 100000 in
set_option maxHeartbeats 4000000 in
theorem lk_X0_limit {G : mG} {x0 : Nat} {x1 : Int} {x2 : Int} {x3 : Int} {σ : mS} {R : mS} (hD : D_X0_limit x0 x1 x2 x3 σ = some R) : Ev G M_X0_limit 0 [(0, vr x0), (1, vi x1), (2, vi x2), (3, vi x3)] [] σ (.inl none) R := by
  unfold D_X0_limit at hD
  refine ev_aload_n dX0_limit_0 0 rfl rfl ?_
  obtain ⟨v1, g, hD⟩ := bd hD
  refine ew_getR 0 12 dX0_limit_1 rfl (Nat.le_of_ble_eq_true rfl) w_409 in_X0 rfl g ?_
  obtain ⟨r2, g, hD⟩ := bd hD
  refine ew_callS0 (as := [vr v1]) (rest := []) dX0_limit_4 v_X7_clear w_493 rfl (Nat.le_of_ble_eq_true rfl) (Nat.le_of_ble_eq_true rfl) (Nat.le_of_ble_eq_true rfl) (ct_X7_clear g) ?_
  refine ev_aload_n dX0_limit_7 0 rfl rfl ?_
  obtain ⟨v3, g, hD⟩ := bd hD
  refine ew_getR 0 12 dX0_limit_8 rfl (Nat.le_of_ble_eq_true rfl) w_409 in_X0 rfl g ?_
  refine ev_iload_n dX0_limit_11 2 rfl rfl ?_
  refine ev_iload_n dX0_limit_12 3 rfl rfl ?_
  obtain ⟨r4, g, hD⟩ := bd hD
  refine ew_callS0 (as := [vr v3, vi x2, vi x3]) (rest := []) dX0_limit_13 v_X7_putAll w_565 rfl (Nat.le_of_ble_eq_true rfl) (Nat.le_of_ble_eq_true rfl) (Nat.le_of_ble_eq_true rfl) (ct_X7_putAll g) ?_
  refine ev_aload_n dX0_limit_16 0 rfl rfl ?_
  obtain ⟨v5, g, hD⟩ := bd hD
  refine ew_getR 0 4 dX0_limit_17 rfl (Nat.le_of_ble_eq_true rfl) w_394 in_X0 rfl g ?_
  refine ev_iload_n dX0_limit_20 1 rfl rfl ?_
  obtain ⟨v6, g, hD⟩ := bd hD
  refine ew_iald dX0_limit_21 g ?_
  refine ev_istore dX0_limit_22 (Nat.le_of_ble_eq_true rfl) rfl ?_
  refine ev_aload_n dX0_limit_24 1 rfl rfl ?_
  refine ev_iload_n dX0_limit_25 2 rfl rfl ?_
  refine ev_aload_n dX0_limit_26 1 rfl rfl ?_
  obtain ⟨v7, g, hD⟩ := bd hD
  refine ew_getR 0 12 dX0_limit_27 rfl (Nat.le_of_ble_eq_true rfl) w_409 in_X0 rfl g ?_
  obtain ⟨_, g0, hD⟩ := bd hD
  obtain ⟨r8, g, hD⟩ := bd hD
  refine ew_callV0 (as := [vi x1, vr v7]) (a := x0) (rest := []) dX0_limit_30 v_X0_keepOnly w_526 rfl (Nat.le_of_ble_eq_true rfl) rfl rfl g0 (Nat.le_of_ble_eq_true rfl) (Nat.le_of_ble_eq_true rfl) (ct_X0_keepOnly g) ?_
  refine ev_aload_n dX0_limit_33 1 rfl rfl ?_
  refine ev_iload_n dX0_limit_34 2 rfl rfl ?_
  refine ev_iload dX0_limit_35 0 rfl ?_
  obtain ⟨_, g0, hD⟩ := bd hD
  obtain ⟨r9, g, hD⟩ := bd hD
  refine ew_callV0 (as := [vi x1, vi v6]) (a := x0) (rest := []) dX0_limit_37 v_X0_note w_582 rfl (Nat.le_of_ble_eq_true rfl) rfl rfl g0 (Nat.le_of_ble_eq_true rfl) (Nat.le_of_ble_eq_true rfl) (ct_X0_note g) ?_
  cases hD
  exact ev_ret none dX0_limit_40 True.intro
theorem ct_X0_limit {G : mG} {x0 : Nat} {x1 : Int} {x2 : Int} {x3 : Int} {σ : mS} {R : mS} (hD : D_X0_limit x0 x1 x2 x3 σ = some R) : Ct G M_X0_limit [vr x0, vi x1, vi x2, vi x3] σ (.inl none) R := ct_of rfl (by decide +kernel) rfl (Nat.le_of_ble_eq_true rfl) rfl (lk_X0_limit hD)
def D_X0_meet_43 (σ : mS) : Option mS :=
  some σ
set_option maxRecDepth 100000 in
set_option maxHeartbeats 4000000 in
theorem lk_X0_meet_43 {G : mG} {σ : mS} {R : mS} (hD : D_X0_meet_43  σ = some R) : Ev G M_X0_meet 43 [] [] σ (.inl none) R := by
  unfold D_X0_meet_43 at hD
  cases hD
  exact ev_ret none dX0_meet_43 True.intro
def D_X0_meet (x0 : Nat) (x1 : Int) (x2 : Int) (x3 : Int) (x4 : Int) (σ : mS) : Option mS :=
  if x1 = x2 then
    if x3 ≤ 0 then
      D_X0_meet_43  σ
    else
      (tgO σ x0 0).bind fun _ =>
      (D_X0_limit x0 x1 1000 999 σ).bind fun r1 =>
      D_X0_meet_43  r1
  else
    (tgO σ x0 0).bind fun _ =>
    (D_X0_fit x0 x2 x1 x3 x4 σ).bind fun r2 =>
    (tgO r2 x0 0).bind fun _ =>
    (D_X0_fit x0 x1 x2 (mw (-x4)) (mw (-x3)) r2).bind fun r3 =>
    D_X0_meet_43  r3
set_option maxRecDepth 100000 in
set_option maxHeartbeats 4000000 in
theorem lk_X0_meet {G : mG} {x0 : Nat} {x1 : Int} {x2 : Int} {x3 : Int} {x4 : Int} {σ : mS} {R : mS} (hD : D_X0_meet x0 x1 x2 x3 x4 σ = some R) : Ev G M_X0_meet 0 [(0, vr x0), (1, vi x1), (2, vi x2), (3, vi x3), (4, vi x4)] [] σ (.inl none) R := by
  unfold D_X0_meet at hD
  refine ev_iload_n dX0_meet_0 1 rfl rfl ?_
  refine ev_iload_n dX0_meet_1 2 rfl rfl ?_
  by_cases c : x1 = x2
  · rw [if_pos c] at hD
    refine ev_icmp_eq_t (tgt := 28) dX0_meet_2 (by decide) c ?_
    refine ev_iload_n dX0_meet_28 3 rfl rfl ?_
    by_cases c : x3 ≤ 0
    · rw [if_pos c] at hD
      refine ev_if_le_t (tgt := 43) dX0_meet_29 (by decide) c ?_
      refine Ev.pick [] rfl ?_
      exact lk_X0_meet_43 hD
    · rw [if_neg c] at hD
      refine ev_if_le_f 43 dX0_meet_29 (by decide) c ?_
      refine ev_aload_n dX0_meet_32 0 rfl rfl ?_
      refine ev_iload_n dX0_meet_33 1 rfl rfl ?_
      refine ev_sp dX0_meet_34 rfl ?_
      refine ev_sp dX0_meet_37 rfl ?_
      obtain ⟨_, g0, hD⟩ := bd hD
      obtain ⟨r1, g, hD⟩ := bd hD
      refine ew_callV0 (as := [vi x1, vi 1000, vi 999]) (a := x0) (rest := []) dX0_meet_40 v_X0_limit w_586 rfl (Nat.le_of_ble_eq_true rfl) rfl rfl g0 (Nat.le_of_ble_eq_true rfl) (Nat.le_of_ble_eq_true rfl) (ct_X0_limit g) ?_
      refine Ev.pick [] rfl ?_
      exact lk_X0_meet_43 hD
  · rw [if_neg c] at hD
    refine ev_icmp_eq_f 28 dX0_meet_2 (by decide) c ?_
    refine ev_aload_n dX0_meet_5 0 rfl rfl ?_
    refine ev_iload_n dX0_meet_6 2 rfl rfl ?_
    refine ev_iload_n dX0_meet_7 1 rfl rfl ?_
    refine ev_iload_n dX0_meet_8 3 rfl rfl ?_
    refine ev_iload dX0_meet_9 4 rfl ?_
    obtain ⟨_, g0, hD⟩ := bd hD
    obtain ⟨r2, g, hD⟩ := bd hD
    refine ew_callV0 (as := [vi x2, vi x1, vi x3, vi x4]) (a := x0) (rest := []) dX0_meet_11 v_X0_fit w_561 rfl (Nat.le_of_ble_eq_true rfl) rfl rfl g0 (Nat.le_of_ble_eq_true rfl) (Nat.le_of_ble_eq_true rfl) (ct_X0_fit g) ?_
    refine ev_aload_n dX0_meet_14 0 rfl rfl ?_
    refine ev_iload_n dX0_meet_15 1 rfl rfl ?_
    refine ev_iload_n dX0_meet_16 2 rfl rfl ?_
    refine ev_iload dX0_meet_17 4 rfl ?_
    refine ev_ineg dX0_meet_19 ?_
    refine ev_iload_n dX0_meet_20 3 rfl rfl ?_
    refine ev_ineg dX0_meet_21 ?_
    obtain ⟨_, g0, hD⟩ := bd hD
    obtain ⟨r3, g, hD⟩ := bd hD
    refine ew_callV0 (as := [vi x1, vi x2, vi (mw (-x4)), vi (mw (-x3))]) (a := x0) (rest := []) dX0_meet_22 v_X0_fit w_561 rfl (Nat.le_of_ble_eq_true rfl) rfl rfl g0 (Nat.le_of_ble_eq_true rfl) (Nat.le_of_ble_eq_true rfl) (ct_X0_fit g) ?_
    refine ev_goto (tgt := 43) dX0_meet_25 (by decide) ?_
    refine Ev.pick [] rfl ?_
    exact lk_X0_meet_43 hD
theorem ct_X0_meet {G : mG} {x0 : Nat} {x1 : Int} {x2 : Int} {x3 : Int} {x4 : Int} {σ : mS} {R : mS} (hD : D_X0_meet x0 x1 x2 x3 x4 σ = some R) : Ct G M_X0_meet [vr x0, vi x1, vi x2, vi x3, vi x4] σ (.inl none) R := ct_of rfl (by decide +kernel) rfl (Nat.le_of_ble_eq_true rfl) rfl (lk_X0_meet hD)
def D_X0_apply_288 (σ : mS) : Option mS :=
  some σ
set_option maxRecDepth 100000 in
set_option maxHeartbeats 4000000 in
theorem lk_X0_apply_288 {G : mG} {σ : mS} {R : mS} (hD : D_X0_apply_288  σ = some R) : Ev G M_X0_apply 288 [] [] σ (.inl none) R := by
  unfold D_X0_apply_288 at hD
  cases hD
  exact ev_ret none dX0_apply_288 True.intro
def D_X0_apply_155 : Nat → Nat → Nat → Nat → Nat → Int → Int → mS → Option mS
  | 0, _, _, _, _, _, _, _ => none
  | f + 1, x0, x1, x2, x3, x4, x5, σ =>
    (gI σ x3 1 0).bind fun v1 =>
    if v1 ≤ x5 then
      some σ
    else
      (gR σ x2 1 1).bind fun v2 =>
      (lI σ v2 x4).bind fun v3 =>
      (gR σ x3 1 1).bind fun v4 =>
      (lI σ v4 x5).bind fun v5 =>
      (gI σ x1 3 3).bind fun v6 =>
      (tgO σ x0 0).bind fun _ =>
      (D_X0_meet x0 v3 v5 v6 999 σ).bind fun r7 =>
      (D_X0_apply_155 f) x0 x1 x2 x3 x4 (mw (x5 + 1)) r7
set_option maxRecDepth 100000 in
set_option maxHeartbeats 4000000 in
theorem lk_X0_apply_155 {G : mG} (f : Nat) : ∀ {x0 : Nat} {x1 : Nat} {x2 : Nat} {x3 : Nat} {x4 : Int} {x5 : Int} {σ : mS} {R : mS}, D_X0_apply_155 f x0 x1 x2 x3 x4 x5 σ = some R → ∀ {r : mX} {τ : mS}, Ev G M_X0_apply 195 [(0, vr x0), (1, vr x1), (2, vr x2), (3, vr x3), (4, vi x4)] [] R r τ → Ev G M_X0_apply 155 [(0, vr x0), (1, vr x1), (2, vr x2), (3, vr x3), (4, vi x4), (5, vi x5)] [] σ r τ := by
  induction f with
  | zero =>
    intros
    rename_i hD _ _ _
    cases hD
  | succ f ih =>
    intro x0 x1 x2 x3 x4 x5 σ R hD r τ hk
    have hrec := @ih
    rw [D_X0_apply_155] at hD
    refine ev_iload dX0_apply_155 5 rfl ?_
    refine ev_aload_n dX0_apply_157 3 rfl rfl ?_
    obtain ⟨v1, g, hD⟩ := bd hD
    refine ew_getI 1 0 dX0_apply_158 rfl (Nat.le_of_ble_eq_true rfl) w_212 in_X1 rfl g ?_
    by_cases c : v1 ≤ x5
    · rw [if_pos c] at hD
      refine ev_icmp_ge_t (tgt := 195) dX0_apply_161 (by decide) c ?_
      cases hD
      refine Ev.pick [0, 1, 2, 3, 4] rfl ?_
      exact hk
    · rw [if_neg c] at hD
      refine ev_icmp_ge_f 195 dX0_apply_161 (by decide) c ?_
      refine ev_aload_n dX0_apply_164 0 rfl rfl ?_
      refine ev_aload_n dX0_apply_165 2 rfl rfl ?_
      obtain ⟨v2, g, hD⟩ := bd hD
      refine ew_getR 1 1 dX0_apply_166 rfl (Nat.le_of_ble_eq_true rfl) w_217 in_X1 rfl g ?_
      refine ev_iload dX0_apply_169 4 rfl ?_
      obtain ⟨v3, g, hD⟩ := bd hD
      refine ew_iald dX0_apply_171 g ?_
      refine ev_aload_n dX0_apply_172 3 rfl rfl ?_
      obtain ⟨v4, g, hD⟩ := bd hD
      refine ew_getR 1 1 dX0_apply_173 rfl (Nat.le_of_ble_eq_true rfl) w_217 in_X1 rfl g ?_
      refine ev_iload dX0_apply_176 5 rfl ?_
      obtain ⟨v5, g, hD⟩ := bd hD
      refine ew_iald dX0_apply_178 g ?_
      refine ev_aload_n dX0_apply_179 1 rfl rfl ?_
      obtain ⟨v6, g, hD⟩ := bd hD
      refine ew_getI 3 3 dX0_apply_180 rfl (Nat.le_of_ble_eq_true rfl) w_247 in_X3 rfl g ?_
      refine ev_sp dX0_apply_183 rfl ?_
      obtain ⟨_, g0, hD⟩ := bd hD
      obtain ⟨r7, g, hD⟩ := bd hD
      refine ew_callV0 (as := [vi v3, vi v5, vi v6, vi 999]) (a := x0) (rest := []) dX0_apply_186 v_X0_meet w_557 rfl (Nat.le_of_ble_eq_true rfl) rfl rfl g0 (Nat.le_of_ble_eq_true rfl) (Nat.le_of_ble_eq_true rfl) (ct_X0_meet g) ?_
      refine ev_iinc dX0_apply_189 5 rfl (Nat.le_of_ble_eq_true rfl) rfl ?_
      refine ev_goto (tgt := 155) dX0_apply_192 (by decide) ?_
      refine Ev.pick [1, 2, 3, 4, 5, 0] rfl ?_
      exact hrec hD hk
def D_X0_apply_143 : Nat → Nat → Nat → Nat → Nat → Int → mS → Option mS
  | 0, _, _, _, _, _, _ => none
  | f + 1, x0, x1, x2, x3, x4, σ =>
    (gI σ x2 1 0).bind fun v1 =>
    if v1 ≤ x4 then
      some σ
    else
      (D_X0_apply_155 mFU x0 x1 x2 x3 x4 0 σ).bind fun r2 =>
      (D_X0_apply_143 f) x0 x1 x2 x3 (mw (x4 + 1)) r2
set_option maxRecDepth 100000 in
set_option maxHeartbeats 4000000 in
theorem lk_X0_apply_143 {G : mG} (f : Nat) : ∀ {x0 : Nat} {x1 : Nat} {x2 : Nat} {x3 : Nat} {x4 : Int} {σ : mS} {R : mS}, D_X0_apply_143 f x0 x1 x2 x3 x4 σ = some R → ∀ {r : mX} {τ : mS}, Ev G M_X0_apply 201 [] [] R r τ → Ev G M_X0_apply 143 [(0, vr x0), (1, vr x1), (2, vr x2), (3, vr x3), (4, vi x4)] [] σ r τ := by
  induction f with
  | zero =>
    intros
    rename_i hD _ _ _
    cases hD
  | succ f ih =>
    intro x0 x1 x2 x3 x4 σ R hD r τ hk
    have hrec := @ih
    rw [D_X0_apply_143] at hD
    refine ev_iload dX0_apply_143 4 rfl ?_
    refine ev_aload_n dX0_apply_145 2 rfl rfl ?_
    obtain ⟨v1, g, hD⟩ := bd hD
    refine ew_getI 1 0 dX0_apply_146 rfl (Nat.le_of_ble_eq_true rfl) w_212 in_X1 rfl g ?_
    by_cases c : v1 ≤ x4
    · rw [if_pos c] at hD
      refine ev_icmp_ge_t (tgt := 201) dX0_apply_149 (by decide) c ?_
      cases hD
      refine Ev.pick [] rfl ?_
      exact hk
    · rw [if_neg c] at hD
      refine ev_icmp_ge_f 201 dX0_apply_149 (by decide) c ?_
      refine ev_iconst dX0_apply_152 (mi_c rfl) ?_
      refine ev_istore dX0_apply_153 (Nat.le_of_ble_eq_true rfl) rfl ?_
      obtain ⟨r2, g, hD⟩ := bd hD
      refine Ev.pick [1, 2, 3, 4, 5, 0] rfl ?_
      refine lk_X0_apply_155 mFU g ?_
      refine ev_iinc dX0_apply_195 4 rfl (Nat.le_of_ble_eq_true rfl) rfl ?_
      refine ev_goto (tgt := 143) dX0_apply_198 (by decide) ?_
      refine Ev.pick [1, 2, 3, 4, 0] rfl ?_
      exact hrec hD hk
def D_X0_apply_237 : Nat → Nat → Nat → Nat → Int → Int → mS → Option mS
  | 0, _, _, _, _, _, _ => none
  | f + 1, x0, x1, x4, x5, x6, σ =>
    (gI σ x4 1 0).bind fun v1 =>
    if v1 ≤ x6 then
      some σ
    else
      (gR σ x4 1 1).bind fun v2 =>
      (lI σ v2 x5).bind fun v3 =>
      (gR σ x4 1 1).bind fun v4 =>
      (lI σ v4 x6).bind fun v5 =>
      (gI σ x1 3 3).bind fun v6 =>
      (gI σ x1 3 3).bind fun v7 =>
      (tgO σ x0 0).bind fun _ =>
      (D_X0_meet x0 v3 v5 (mw (-v6)) v7 σ).bind fun r8 =>
      (D_X0_apply_237 f) x0 x1 x4 x5 (mw (x6 + 1)) r8
set_option maxRecDepth 100000 in
set_option maxHeartbeats 4000000 in
theorem lk_X0_apply_237 {G : mG} (f : Nat) : ∀ {x0 : Nat} {x1 : Nat} {x4 : Nat} {x5 : Int} {x6 : Int} {σ : mS} {R : mS}, D_X0_apply_237 f x0 x1 x4 x5 x6 σ = some R → ∀ {r : mX} {τ : mS}, Ev G M_X0_apply 282 [(0, vr x0), (1, vr x1), (4, vr x4), (5, vi x5)] [] R r τ → Ev G M_X0_apply 237 [(0, vr x0), (1, vr x1), (4, vr x4), (5, vi x5), (6, vi x6)] [] σ r τ := by
  induction f with
  | zero =>
    intros
    rename_i hD _ _ _
    cases hD
  | succ f ih =>
    intro x0 x1 x4 x5 x6 σ R hD r τ hk
    have hrec := @ih
    rw [D_X0_apply_237] at hD
    refine ev_iload dX0_apply_237 4 rfl ?_
    refine ev_aload dX0_apply_239 2 rfl ?_
    obtain ⟨v1, g, hD⟩ := bd hD
    refine ew_getI 1 0 dX0_apply_241 rfl (Nat.le_of_ble_eq_true rfl) w_212 in_X1 rfl g ?_
    by_cases c : v1 ≤ x6
    · rw [if_pos c] at hD
      refine ev_icmp_ge_t (tgt := 282) dX0_apply_244 (by decide) c ?_
      cases hD
      refine Ev.pick [0, 1, 2, 3] rfl ?_
      exact hk
    · rw [if_neg c] at hD
      refine ev_icmp_ge_f 282 dX0_apply_244 (by decide) c ?_
      refine ev_aload_n dX0_apply_247 0 rfl rfl ?_
      refine ev_aload dX0_apply_248 2 rfl ?_
      obtain ⟨v2, g, hD⟩ := bd hD
      refine ew_getR 1 1 dX0_apply_250 rfl (Nat.le_of_ble_eq_true rfl) w_217 in_X1 rfl g ?_
      refine ev_iload dX0_apply_253 3 rfl ?_
      obtain ⟨v3, g, hD⟩ := bd hD
      refine ew_iald dX0_apply_255 g ?_
      refine ev_aload dX0_apply_256 2 rfl ?_
      obtain ⟨v4, g, hD⟩ := bd hD
      refine ew_getR 1 1 dX0_apply_258 rfl (Nat.le_of_ble_eq_true rfl) w_217 in_X1 rfl g ?_
      refine ev_iload dX0_apply_261 4 rfl ?_
      obtain ⟨v5, g, hD⟩ := bd hD
      refine ew_iald dX0_apply_263 g ?_
      refine ev_aload_n dX0_apply_264 1 rfl rfl ?_
      obtain ⟨v6, g, hD⟩ := bd hD
      refine ew_getI 3 3 dX0_apply_265 rfl (Nat.le_of_ble_eq_true rfl) w_247 in_X3 rfl g ?_
      refine ev_ineg dX0_apply_268 ?_
      refine ev_aload_n dX0_apply_269 1 rfl rfl ?_
      obtain ⟨v7, g, hD⟩ := bd hD
      refine ew_getI 3 3 dX0_apply_270 rfl (Nat.le_of_ble_eq_true rfl) w_247 in_X3 rfl g ?_
      obtain ⟨_, g0, hD⟩ := bd hD
      obtain ⟨r8, g, hD⟩ := bd hD
      refine ew_callV0 (as := [vi v3, vi v5, vi (mw (-v6)), vi v7]) (a := x0) (rest := []) dX0_apply_273 v_X0_meet w_557 rfl (Nat.le_of_ble_eq_true rfl) rfl rfl g0 (Nat.le_of_ble_eq_true rfl) (Nat.le_of_ble_eq_true rfl) (ct_X0_meet g) ?_
      refine ev_iinc dX0_apply_276 4 rfl (Nat.le_of_ble_eq_true rfl) rfl ?_
      refine ev_goto (tgt := 237) dX0_apply_279 (by decide) ?_
      refine Ev.pick [1, 2, 3, 4, 0] rfl ?_
      exact hrec hD hk
def D_X0_apply_221 : Nat → Nat → Nat → Nat → Int → mS → Option mS
  | 0, _, _, _, _, _ => none
  | f + 1, x0, x1, x4, x5, σ =>
    (gI σ x4 1 0).bind fun v1 =>
    if v1 ≤ x5 then
      some σ
    else
      (D_X0_apply_237 mFU x0 x1 x4 x5 (mw (x5 + 1)) σ).bind fun r2 =>
      (D_X0_apply_221 f) x0 x1 x4 (mw (x5 + 1)) r2
set_option maxRecDepth 100000 in
set_option maxHeartbeats 4000000 in
theorem lk_X0_apply_221 {G : mG} (f : Nat) : ∀ {x0 : Nat} {x1 : Nat} {x4 : Nat} {x5 : Int} {σ : mS} {R : mS}, D_X0_apply_221 f x0 x1 x4 x5 σ = some R → ∀ {r : mX} {τ : mS}, Ev G M_X0_apply 288 [] [] R r τ → Ev G M_X0_apply 221 [(0, vr x0), (1, vr x1), (4, vr x4), (5, vi x5)] [] σ r τ := by
  induction f with
  | zero =>
    intros
    rename_i hD _ _ _
    cases hD
  | succ f ih =>
    intro x0 x1 x4 x5 σ R hD r τ hk
    have hrec := @ih
    rw [D_X0_apply_221] at hD
    refine ev_iload dX0_apply_221 3 rfl ?_
    refine ev_aload dX0_apply_223 2 rfl ?_
    obtain ⟨v1, g, hD⟩ := bd hD
    refine ew_getI 1 0 dX0_apply_225 rfl (Nat.le_of_ble_eq_true rfl) w_212 in_X1 rfl g ?_
    by_cases c : v1 ≤ x5
    · rw [if_pos c] at hD
      refine ev_icmp_ge_t (tgt := 288) dX0_apply_228 (by decide) c ?_
      cases hD
      refine Ev.pick [] rfl ?_
      exact hk
    · rw [if_neg c] at hD
      refine ev_icmp_ge_f 288 dX0_apply_228 (by decide) c ?_
      refine ev_iload dX0_apply_231 3 rfl ?_
      refine ev_iconst dX0_apply_233 (mi_c rfl) ?_
      refine ev_iadd dX0_apply_234 ?_
      refine ev_istore dX0_apply_235 (Nat.le_of_ble_eq_true rfl) rfl ?_
      obtain ⟨r2, g, hD⟩ := bd hD
      refine Ev.pick [1, 2, 3, 4, 0] rfl ?_
      refine lk_X0_apply_237 mFU g ?_
      refine ev_iinc dX0_apply_282 3 rfl (Nat.le_of_ble_eq_true rfl) rfl ?_
      refine ev_goto (tgt := 221) dX0_apply_285 (by decide) ?_
      refine Ev.pick [1, 2, 3, 0] rfl ?_
      exact hrec hD hk
def D_X0_apply (x0 : Nat) (x1 : Nat) (σ : mS) : Option mS :=
  (gI σ x1 3 0).bind fun v1 =>
  if v1 = 0 then
    (gI σ x1 3 1).bind fun v2 =>
    (gI σ x1 3 2).bind fun v3 =>
    (gI σ x1 3 3).bind fun v4 =>
    (gI σ x1 3 4).bind fun v5 =>
    (tgO σ x0 0).bind fun _ =>
    (D_X0_meet x0 v2 v3 v4 v5 σ).bind fun r6 =>
    D_X0_apply_288  r6
  else
  if v1 = 1 then
    (gI σ x1 3 1).bind fun v7 =>
    (gI σ x1 3 2).bind fun v8 =>
    (tgO σ x0 0).bind fun _ =>
    (D_X0_meet x0 v7 v8 0 0 σ).bind fun r9 =>
    D_X0_apply_288  r9
  else
  if v1 = 2 then
    (gI σ x1 3 1).bind fun v10 =>
    (gI σ x1 3 3).bind fun v11 =>
    (tgO σ x0 0).bind fun _ =>
    (D_X0_limit x0 v10 v11 999 σ).bind fun r12 =>
    D_X0_apply_288  r12
  else
  if v1 = 3 then
    (gI σ x1 3 1).bind fun v13 =>
    (gI σ x1 3 3).bind fun v14 =>
    (tgO σ x0 0).bind fun _ =>
    (D_X0_limit x0 v13 0 v14 σ).bind fun r15 =>
    D_X0_apply_288  r15
  else
  if v1 = 4 then
    (gR σ x0 0 0).bind fun v16 =>
    (gR σ v16 5 9).bind fun v17 =>
    (gI σ x1 3 1).bind fun v18 =>
    (lR σ v17 v18).bind fun v19 =>
    (gR σ x0 0 0).bind fun v20 =>
    (gR σ v20 5 9).bind fun v21 =>
    (gI σ x1 3 2).bind fun v22 =>
    (lR σ v21 v22).bind fun v23 =>
    (D_X0_apply_143 mFU x0 x1 v19 v23 0 σ).bind fun r24 =>
    D_X0_apply_288  r24
  else
    (gR σ x0 0 0).bind fun v25 =>
    (gR σ v25 5 9).bind fun v26 =>
    (gI σ x1 3 1).bind fun v27 =>
    (lR σ v26 v27).bind fun v28 =>
    (D_X0_apply_221 mFU x0 x1 v28 0 σ).bind fun r29 =>
    D_X0_apply_288  r29
set_option maxRecDepth 100000 in
set_option maxHeartbeats 4000000 in
theorem lk_X0_apply {G : mG} {x0 : Nat} {x1 : Nat} {σ : mS} {R : mS} (hD : D_X0_apply x0 x1 σ = some R) : Ev G M_X0_apply 0 [(0, vr x0), (1, vr x1)] [] σ (.inl none) R := by
  unfold D_X0_apply at hD
  refine ev_aload_n dX0_apply_0 1 rfl rfl ?_
  obtain ⟨v1, g, hD⟩ := bd hD
  refine ew_getI 3 0 dX0_apply_1 rfl (Nat.le_of_ble_eq_true rfl) w_232 in_X3 rfl g ?_
  by_cases c0 : v1 = 0
  · rw [if_pos c0] at hD
    refine ev_tableIn (off := 36) (tgt := 40) dX0_apply_4 (by omega) (by omega) (by rw [c0]; rfl) (by decide) ?_
    refine ev_aload_n dX0_apply_40 0 rfl rfl ?_
    refine ev_aload_n dX0_apply_41 1 rfl rfl ?_
    obtain ⟨v2, g, hD⟩ := bd hD
    refine ew_getI 3 1 dX0_apply_42 rfl (Nat.le_of_ble_eq_true rfl) w_237 in_X3 rfl g ?_
    refine ev_aload_n dX0_apply_45 1 rfl rfl ?_
    obtain ⟨v3, g, hD⟩ := bd hD
    refine ew_getI 3 2 dX0_apply_46 rfl (Nat.le_of_ble_eq_true rfl) w_242 in_X3 rfl g ?_
    refine ev_aload_n dX0_apply_49 1 rfl rfl ?_
    obtain ⟨v4, g, hD⟩ := bd hD
    refine ew_getI 3 3 dX0_apply_50 rfl (Nat.le_of_ble_eq_true rfl) w_247 in_X3 rfl g ?_
    refine ev_aload_n dX0_apply_53 1 rfl rfl ?_
    obtain ⟨v5, g, hD⟩ := bd hD
    refine ew_getI 3 4 dX0_apply_54 rfl (Nat.le_of_ble_eq_true rfl) w_252 in_X3 rfl g ?_
    obtain ⟨_, g0, hD⟩ := bd hD
    obtain ⟨r6, g, hD⟩ := bd hD
    refine ew_callV0 (as := [vi v2, vi v3, vi v4, vi v5]) (a := x0) (rest := []) dX0_apply_57 v_X0_meet w_557 rfl (Nat.le_of_ble_eq_true rfl) rfl rfl g0 (Nat.le_of_ble_eq_true rfl) (Nat.le_of_ble_eq_true rfl) (ct_X0_meet g) ?_
    refine ev_goto (tgt := 288) dX0_apply_60 (by decide) ?_
    refine Ev.pick [] rfl ?_
    exact lk_X0_apply_288 hD
  rw [if_neg c0] at hD
  by_cases c1 : v1 = 1
  · rw [if_pos c1] at hD
    refine ev_tableIn (off := 59) (tgt := 63) dX0_apply_4 (by omega) (by omega) (by rw [c1]; rfl) (by decide) ?_
    refine ev_aload_n dX0_apply_63 0 rfl rfl ?_
    refine ev_aload_n dX0_apply_64 1 rfl rfl ?_
    obtain ⟨v7, g, hD⟩ := bd hD
    refine ew_getI 3 1 dX0_apply_65 rfl (Nat.le_of_ble_eq_true rfl) w_237 in_X3 rfl g ?_
    refine ev_aload_n dX0_apply_68 1 rfl rfl ?_
    obtain ⟨v8, g, hD⟩ := bd hD
    refine ew_getI 3 2 dX0_apply_69 rfl (Nat.le_of_ble_eq_true rfl) w_242 in_X3 rfl g ?_
    refine ev_iconst dX0_apply_72 (mi_c rfl) ?_
    refine ev_iconst dX0_apply_73 (mi_c rfl) ?_
    obtain ⟨_, g0, hD⟩ := bd hD
    obtain ⟨r9, g, hD⟩ := bd hD
    refine ew_callV0 (as := [vi v7, vi v8, vi 0, vi 0]) (a := x0) (rest := []) dX0_apply_74 v_X0_meet w_557 rfl (Nat.le_of_ble_eq_true rfl) rfl rfl g0 (Nat.le_of_ble_eq_true rfl) (Nat.le_of_ble_eq_true rfl) (ct_X0_meet g) ?_
    refine ev_goto (tgt := 288) dX0_apply_77 (by decide) ?_
    refine Ev.pick [] rfl ?_
    exact lk_X0_apply_288 hD
  rw [if_neg c1] at hD
  by_cases c2 : v1 = 2
  · rw [if_pos c2] at hD
    refine ev_tableIn (off := 76) (tgt := 80) dX0_apply_4 (by omega) (by omega) (by rw [c2]; rfl) (by decide) ?_
    refine ev_aload_n dX0_apply_80 0 rfl rfl ?_
    refine ev_aload_n dX0_apply_81 1 rfl rfl ?_
    obtain ⟨v10, g, hD⟩ := bd hD
    refine ew_getI 3 1 dX0_apply_82 rfl (Nat.le_of_ble_eq_true rfl) w_237 in_X3 rfl g ?_
    refine ev_aload_n dX0_apply_85 1 rfl rfl ?_
    obtain ⟨v11, g, hD⟩ := bd hD
    refine ew_getI 3 3 dX0_apply_86 rfl (Nat.le_of_ble_eq_true rfl) w_247 in_X3 rfl g ?_
    refine ev_sp dX0_apply_89 rfl ?_
    obtain ⟨_, g0, hD⟩ := bd hD
    obtain ⟨r12, g, hD⟩ := bd hD
    refine ew_callV0 (as := [vi v10, vi v11, vi 999]) (a := x0) (rest := []) dX0_apply_92 v_X0_limit w_586 rfl (Nat.le_of_ble_eq_true rfl) rfl rfl g0 (Nat.le_of_ble_eq_true rfl) (Nat.le_of_ble_eq_true rfl) (ct_X0_limit g) ?_
    refine ev_goto (tgt := 288) dX0_apply_95 (by decide) ?_
    refine Ev.pick [] rfl ?_
    exact lk_X0_apply_288 hD
  rw [if_neg c2] at hD
  by_cases c3 : v1 = 3
  · rw [if_pos c3] at hD
    refine ev_tableIn (off := 94) (tgt := 98) dX0_apply_4 (by omega) (by omega) (by rw [c3]; rfl) (by decide) ?_
    refine ev_aload_n dX0_apply_98 0 rfl rfl ?_
    refine ev_aload_n dX0_apply_99 1 rfl rfl ?_
    obtain ⟨v13, g, hD⟩ := bd hD
    refine ew_getI 3 1 dX0_apply_100 rfl (Nat.le_of_ble_eq_true rfl) w_237 in_X3 rfl g ?_
    refine ev_iconst dX0_apply_103 (mi_c rfl) ?_
    refine ev_aload_n dX0_apply_104 1 rfl rfl ?_
    obtain ⟨v14, g, hD⟩ := bd hD
    refine ew_getI 3 3 dX0_apply_105 rfl (Nat.le_of_ble_eq_true rfl) w_247 in_X3 rfl g ?_
    obtain ⟨_, g0, hD⟩ := bd hD
    obtain ⟨r15, g, hD⟩ := bd hD
    refine ew_callV0 (as := [vi v13, vi 0, vi v14]) (a := x0) (rest := []) dX0_apply_108 v_X0_limit w_586 rfl (Nat.le_of_ble_eq_true rfl) rfl rfl g0 (Nat.le_of_ble_eq_true rfl) (Nat.le_of_ble_eq_true rfl) (ct_X0_limit g) ?_
    refine ev_goto (tgt := 288) dX0_apply_111 (by decide) ?_
    refine Ev.pick [] rfl ?_
    exact lk_X0_apply_288 hD
  rw [if_neg c3] at hD
  by_cases c4 : v1 = 4
  · rw [if_pos c4] at hD
    refine ev_tableIn (off := 110) (tgt := 114) dX0_apply_4 (by omega) (by omega) (by rw [c4]; rfl) (by decide) ?_
    refine ev_aload_n dX0_apply_114 0 rfl rfl ?_
    obtain ⟨v16, g, hD⟩ := bd hD
    refine ew_getR 0 0 dX0_apply_115 rfl (Nat.le_of_ble_eq_true rfl) w_387 in_X0 rfl g ?_
    obtain ⟨v17, g, hD⟩ := bd hD
    refine ew_getR 5 9 dX0_apply_118 rfl (Nat.le_of_ble_eq_true rfl) w_301 in_X5 rfl g ?_
    refine ev_aload_n dX0_apply_121 1 rfl rfl ?_
    obtain ⟨v18, g, hD⟩ := bd hD
    refine ew_getI 3 1 dX0_apply_122 rfl (Nat.le_of_ble_eq_true rfl) w_237 in_X3 rfl g ?_
    obtain ⟨v19, g, hD⟩ := bd hD
    refine ew_aald dX0_apply_125 g ?_
    refine ev_astore_n dX0_apply_126 rfl (Nat.le_of_ble_eq_true rfl) rfl ?_
    refine ev_aload_n dX0_apply_127 1 rfl rfl ?_
    obtain ⟨v20, g, hD⟩ := bd hD
    refine ew_getR 0 0 dX0_apply_128 rfl (Nat.le_of_ble_eq_true rfl) w_387 in_X0 rfl g ?_
    obtain ⟨v21, g, hD⟩ := bd hD
    refine ew_getR 5 9 dX0_apply_131 rfl (Nat.le_of_ble_eq_true rfl) w_301 in_X5 rfl g ?_
    refine ev_aload_n dX0_apply_134 2 rfl rfl ?_
    obtain ⟨v22, g, hD⟩ := bd hD
    refine ew_getI 3 2 dX0_apply_135 rfl (Nat.le_of_ble_eq_true rfl) w_242 in_X3 rfl g ?_
    obtain ⟨v23, g, hD⟩ := bd hD
    refine ew_aald dX0_apply_138 g ?_
    refine ev_astore_n dX0_apply_139 rfl (Nat.le_of_ble_eq_true rfl) rfl ?_
    refine ev_iconst dX0_apply_140 (mi_c rfl) ?_
    refine ev_istore dX0_apply_141 (Nat.le_of_ble_eq_true rfl) rfl ?_
    obtain ⟨r24, g, hD⟩ := bd hD
    refine Ev.pick [3, 4, 2, 1, 0] rfl ?_
    refine lk_X0_apply_143 mFU g ?_
    refine ev_goto (tgt := 288) dX0_apply_201 (by decide) ?_
    exact lk_X0_apply_288 hD
  rw [if_neg c4] at hD
  refine ev_tableOut (tgt := 204) dX0_apply_4 (by omega) (by decide) ?_
  refine ev_aload_n dX0_apply_204 0 rfl rfl ?_
  obtain ⟨v25, g, hD⟩ := bd hD
  refine ew_getR 0 0 dX0_apply_205 rfl (Nat.le_of_ble_eq_true rfl) w_387 in_X0 rfl g ?_
  obtain ⟨v26, g, hD⟩ := bd hD
  refine ew_getR 5 9 dX0_apply_208 rfl (Nat.le_of_ble_eq_true rfl) w_301 in_X5 rfl g ?_
  refine ev_aload_n dX0_apply_211 1 rfl rfl ?_
  obtain ⟨v27, g, hD⟩ := bd hD
  refine ew_getI 3 1 dX0_apply_212 rfl (Nat.le_of_ble_eq_true rfl) w_237 in_X3 rfl g ?_
  obtain ⟨v28, g, hD⟩ := bd hD
  refine ew_aald dX0_apply_215 g ?_
  refine ev_astore dX0_apply_216 (Nat.le_of_ble_eq_true rfl) rfl ?_
  refine ev_iconst dX0_apply_218 (mi_c rfl) ?_
  refine ev_istore dX0_apply_219 (Nat.le_of_ble_eq_true rfl) rfl ?_
  obtain ⟨r29, g, hD⟩ := bd hD
  refine Ev.pick [2, 3, 1, 0] rfl ?_
  refine lk_X0_apply_221 mFU g ?_
  exact lk_X0_apply_288 hD
theorem ct_X0_apply {G : mG} {x0 : Nat} {x1 : Nat} {σ : mS} {R : mS} (hD : D_X0_apply x0 x1 σ = some R) : Ct G M_X0_apply [vr x0, vr x1] σ (.inl none) R := ct_of rfl (by decide +kernel) rfl (Nat.le_of_ble_eq_true rfl) rfl (lk_X0_apply hD)
def D_X0_run_88 (rec : Nat → Int → Int → Int → mS → Option (mS ⊕ mS)) (x0 : Nat) (x1 : Int) (x2 : Int) (x4 : Int) (σ : mS) : Option (mS ⊕ mS) :=
  rec x0 x1 x2 (mw (x4 + 1)) σ
set_option maxRecDepth 100000 in
set_option maxHeartbeats 4000000 in
theorem lk_X0_run_88 {G : mG} {rec : Nat → Int → Int → Int → mS → Option (mS ⊕ mS)} {x0 : Nat} {x1 : Int} {x2 : Int} {x3 : Int} {x4 : Int} {σ : mS} {R : (mS ⊕ mS)} {r : mX} {τ : mS} (hD : D_X0_run_88 rec x0 x1 x2 x4 σ = some R) (hrec : ∀ {x0 : Nat} {x1 : Int} {x2 : Int} {x4 : Int} {σ : mS} {R : (mS ⊕ mS)}, rec x0 x1 x2 x4 σ = some R → ∀ {r : mX} {τ : mS}, (∀ z, R = (Sum.inl z) → Ev G M_X0_run 94 [(0, vr x0), (1, vi x1), (2, vi x2), (3, vi x3)] [] z r τ) ∧ (∀ z, R = (Sum.inr z) → r = .inl none ∧ τ = z) → Ev G M_X0_run 38 [(0, vr x0), (1, vi x1), (2, vi x2), (3, vi x3), (4, vi x4)] [] σ r τ) (hk : (∀ z, R = (Sum.inl z) → Ev G M_X0_run 94 [(0, vr x0), (1, vi x1), (2, vi x2), (3, vi x3)] [] z r τ) ∧ (∀ z, R = (Sum.inr z) → r = .inl none ∧ τ = z)) : Ev G M_X0_run 88 [(0, vr x0), (1, vi x1), (2, vi x2), (3, vi x3), (4, vi x4)] [] σ r τ := by
  unfold D_X0_run_88 at hD
  refine ev_iinc dX0_run_88 4 rfl (Nat.le_of_ble_eq_true rfl) rfl ?_
  refine ev_goto (tgt := 38) dX0_run_91 (by decide) ?_
  refine Ev.pick [1, 2, 3, 4, 0] rfl ?_
  exact hrec hD hk
def D_X0_run_62 (rec : Nat → Int → Int → Int → mS → Option (mS ⊕ mS)) (x0 : Nat) (x1 : Int) (x2 : Int) (x4 : Int) (σ : mS) : Option (mS ⊕ mS) :=
  if x4 = x1 then
    D_X0_run_88 rec x0 x1 x2 x4 σ
  else
    (pI σ x0 0 13 x4).bind fun s1 =>
    (gR s1 x0 0 0).bind fun v2 =>
    (gR s1 v2 5 10).bind fun v3 =>
    (lR s1 v3 x4).bind fun v4 =>
    (tgO s1 x0 0).bind fun _ =>
    (D_X0_apply x0 v4 s1).bind fun r5 =>
    D_X0_run_88 rec x0 x1 x2 x4 r5
set_option maxRecDepth 100000 in
set_option maxHeartbeats 4000000 in
theorem lk_X0_run_62 {G : mG} {rec : Nat → Int → Int → Int → mS → Option (mS ⊕ mS)} {x0 : Nat} {x1 : Int} {x2 : Int} {x3 : Int} {x4 : Int} {σ : mS} {R : (mS ⊕ mS)} {r : mX} {τ : mS} (hD : D_X0_run_62 rec x0 x1 x2 x4 σ = some R) (hrec : ∀ {x0 : Nat} {x1 : Int} {x2 : Int} {x4 : Int} {σ : mS} {R : (mS ⊕ mS)}, rec x0 x1 x2 x4 σ = some R → ∀ {r : mX} {τ : mS}, (∀ z, R = (Sum.inl z) → Ev G M_X0_run 94 [(0, vr x0), (1, vi x1), (2, vi x2), (3, vi x3)] [] z r τ) ∧ (∀ z, R = (Sum.inr z) → r = .inl none ∧ τ = z) → Ev G M_X0_run 38 [(0, vr x0), (1, vi x1), (2, vi x2), (3, vi x3), (4, vi x4)] [] σ r τ) (hk : (∀ z, R = (Sum.inl z) → Ev G M_X0_run 94 [(0, vr x0), (1, vi x1), (2, vi x2), (3, vi x3)] [] z r τ) ∧ (∀ z, R = (Sum.inr z) → r = .inl none ∧ τ = z)) : Ev G M_X0_run 62 [(0, vr x0), (1, vi x1), (2, vi x2), (3, vi x3), (4, vi x4)] [] σ r τ := by
  unfold D_X0_run_62 at hD
  refine ev_iload dX0_run_62 4 rfl ?_
  refine ev_iload_n dX0_run_64 1 rfl rfl ?_
  by_cases c : x4 = x1
  · rw [if_pos c] at hD
    refine ev_icmp_eq_t (tgt := 88) dX0_run_65 (by decide) c ?_
    exact lk_X0_run_88 hD hrec hk
  · rw [if_neg c] at hD
    refine ev_icmp_eq_f 88 dX0_run_65 (by decide) c ?_
    refine ev_aload_n dX0_run_68 0 rfl rfl ?_
    refine ev_iload dX0_run_69 4 rfl ?_
    obtain ⟨s1, g, hD⟩ := bd hD
    refine ew_putI 0 13 dX0_run_71 rfl (Nat.le_of_ble_eq_true rfl) w_410 in_X0 tyX0_ok nmX0 (Or.inl rfl) rfl g ?_
    refine ev_aload_n dX0_run_74 0 rfl rfl ?_
    refine ev_aload_n dX0_run_75 0 rfl rfl ?_
    obtain ⟨v2, g, hD⟩ := bd hD
    refine ew_getR 0 0 dX0_run_76 rfl (Nat.le_of_ble_eq_true rfl) w_387 in_X0 rfl g ?_
    obtain ⟨v3, g, hD⟩ := bd hD
    refine ew_getR 5 10 dX0_run_79 rfl (Nat.le_of_ble_eq_true rfl) w_305 in_X5 rfl g ?_
    refine ev_iload dX0_run_82 4 rfl ?_
    obtain ⟨v4, g, hD⟩ := bd hD
    refine ew_aald dX0_run_84 g ?_
    obtain ⟨_, g0, hD⟩ := bd hD
    obtain ⟨r5, g, hD⟩ := bd hD
    refine ew_callV0 (as := [vr v4]) (a := x0) (rest := []) dX0_run_85 v_X0_apply w_553 rfl (Nat.le_of_ble_eq_true rfl) rfl rfl g0 (Nat.le_of_ble_eq_true rfl) (Nat.le_of_ble_eq_true rfl) (ct_X0_apply g) ?_
    exact lk_X0_run_88 hD hrec hk
def D_X0_run_38 : Nat → Nat → Int → Int → Int → mS → Option (mS ⊕ mS)
  | 0, _, _, _, _, _ => none
  | f + 1, x0, x1, x2, x4, σ =>
    (gR σ x0 0 0).bind fun v1 =>
    (gI σ v1 5 5).bind fun v2 =>
    if v2 ≤ x4 then
      some (Sum.inl σ)
    else
      if x2 = 0 then
        D_X0_run_62 (D_X0_run_38 f) x0 x1 x2 x4 σ
      else
        (tgO σ x0 0).bind fun _ =>
        (D_X0_hasClash x0 σ).bind fun r3 =>
        if r3 = 0 then
          D_X0_run_62 (D_X0_run_38 f) x0 x1 x2 x4 σ
        else
          some (Sum.inr σ)
set_option maxRecDepth 100000 in
set_option maxHeartbeats 4000000 in
theorem lk_X0_run_38 {G : mG} {x3 : Int} (f : Nat) : ∀ {x0 : Nat} {x1 : Int} {x2 : Int} {x4 : Int} {σ : mS} {R : (mS ⊕ mS)}, D_X0_run_38 f x0 x1 x2 x4 σ = some R → ∀ {r : mX} {τ : mS}, (∀ z, R = (Sum.inl z) → Ev G M_X0_run 94 [(0, vr x0), (1, vi x1), (2, vi x2), (3, vi x3)] [] z r τ) ∧ (∀ z, R = (Sum.inr z) → r = .inl none ∧ τ = z) → Ev G M_X0_run 38 [(0, vr x0), (1, vi x1), (2, vi x2), (3, vi x3), (4, vi x4)] [] σ r τ := by
  induction f with
  | zero =>
    intros
    rename_i hD _ _ _
    cases hD
  | succ f ih =>
    intro x0 x1 x2 x4 σ R hD r τ hk
    have hrec := @ih
    rw [D_X0_run_38] at hD
    refine ev_iload dX0_run_38 4 rfl ?_
    refine ev_aload_n dX0_run_40 0 rfl rfl ?_
    obtain ⟨v1, g, hD⟩ := bd hD
    refine ew_getR 0 0 dX0_run_41 rfl (Nat.le_of_ble_eq_true rfl) w_387 in_X0 rfl g ?_
    obtain ⟨v2, g, hD⟩ := bd hD
    refine ew_getI 5 5 dX0_run_44 rfl (Nat.le_of_ble_eq_true rfl) w_286 in_X5 rfl g ?_
    by_cases c : v2 ≤ x4
    · rw [if_pos c] at hD
      refine ev_icmp_ge_t (tgt := 94) dX0_run_47 (by decide) c ?_
      cases hD
      refine Ev.pick [0, 1, 2, 3] rfl ?_
      exact hk.1 _ rfl
    · rw [if_neg c] at hD
      refine ev_icmp_ge_f 94 dX0_run_47 (by decide) c ?_
      refine ev_iload_n dX0_run_50 2 rfl rfl ?_
      by_cases c : x2 = 0
      · rw [if_pos c] at hD
        refine ev_if_eq_t (tgt := 62) dX0_run_51 (by decide) c ?_
        exact lk_X0_run_62 hD hrec hk
      · rw [if_neg c] at hD
        refine ev_if_eq_f 62 dX0_run_51 (by decide) c ?_
        refine ev_aload_n dX0_run_54 0 rfl rfl ?_
        obtain ⟨_, g0, hD⟩ := bd hD
        obtain ⟨r3, g, hD⟩ := bd hD
        refine ew_callVv (as := []) (a := x0) (rest := []) dX0_run_55 v_X0_hasClash w_549 rfl (Nat.le_of_ble_eq_true rfl) rfl rfl g0 (Nat.le_of_ble_eq_true rfl) (Nat.le_of_ble_eq_true rfl) (ct_X0_hasClash g) ?_
        by_cases c : r3 = 0
        · rw [if_pos c] at hD
          refine ev_if_eq_t (tgt := 62) dX0_run_58 (by decide) c ?_
          exact lk_X0_run_62 hD hrec hk
        · rw [if_neg c] at hD
          refine ev_if_eq_f 62 dX0_run_58 (by decide) c ?_
          cases hD
          obtain ⟨rfl, rfl⟩ := hk.2 _ rfl
          exact ev_ret none dX0_run_61 True.intro
def D_X0_run_11 : Nat → Nat → Int → Int → Int → mS → Option (mS ⊕ mS)
  | 0, _, _, _, _, _ => none
  | f + 1, x0, x1, x2, x3, σ =>
    if 12001 < x3 then
      some (Sum.inl σ)
    else
      (gI σ x0 0 14).bind fun v1 =>
      if v1 = 0 then
        some (Sum.inl σ)
      else
        (pI σ x0 0 8 x3).bind fun s2 =>
        (pB s2 x0 0 14 0).bind fun s3 =>
        (D_X0_run_38 mFU x0 x1 x2 0 s3).bind fun r4 =>
        match r4 with
        | (Sum.inl z5) =>
          (D_X0_run_11 f) x0 x1 x2 (mw (x3 + 1)) z5
        | (Sum.inr z6) =>
          some (Sum.inr z6)
set_option maxRecDepth 100000 in
set_option maxHeartbeats 4000000 in
theorem lk_X0_run_11 {G : mG} (f : Nat) : ∀ {x0 : Nat} {x1 : Int} {x2 : Int} {x3 : Int} {σ : mS} {R : (mS ⊕ mS)}, D_X0_run_11 f x0 x1 x2 x3 σ = some R → ∀ {r : mX} {τ : mS}, (∀ z, R = (Sum.inl z) → Ev G M_X0_run 100 [] [] z r τ) ∧ (∀ z, R = (Sum.inr z) → r = .inl none ∧ τ = z) → Ev G M_X0_run 11 [(0, vr x0), (1, vi x1), (2, vi x2), (3, vi x3)] [] σ r τ := by
  induction f with
  | zero =>
    intros
    rename_i hD _ _ _
    cases hD
  | succ f ih =>
    intro x0 x1 x2 x3 σ R hD r τ hk
    have hrec := @ih
    rw [D_X0_run_11] at hD
    refine ev_iload_n dX0_run_11 3 rfl rfl ?_
    refine ev_sp dX0_run_12 rfl ?_
    by_cases c : 12001 < x3
    · rw [if_pos c] at hD
      refine ev_icmp_gt_t (tgt := 100) dX0_run_15 (by decide) c ?_
      cases hD
      refine Ev.pick [] rfl ?_
      exact hk.1 _ rfl
    · rw [if_neg c] at hD
      refine ev_icmp_gt_f 100 dX0_run_15 (by decide) c ?_
      refine ev_aload_n dX0_run_18 0 rfl rfl ?_
      obtain ⟨v1, g, hD⟩ := bd hD
      refine ew_getI 0 14 dX0_run_19 rfl (Nat.le_of_ble_eq_true rfl) w_411 in_X0 rfl g ?_
      by_cases c : v1 = 0
      · rw [if_pos c] at hD
        refine ev_if_eq_t (tgt := 100) dX0_run_22 (by decide) c ?_
        cases hD
        refine Ev.pick [] rfl ?_
        exact hk.1 _ rfl
      · rw [if_neg c] at hD
        refine ev_if_eq_f 100 dX0_run_22 (by decide) c ?_
        refine ev_aload_n dX0_run_25 0 rfl rfl ?_
        refine ev_iload_n dX0_run_26 3 rfl rfl ?_
        obtain ⟨s2, g, hD⟩ := bd hD
        refine ew_putI 0 8 dX0_run_27 rfl (Nat.le_of_ble_eq_true rfl) w_402 in_X0 tyX0_ok nmX0 (Or.inl rfl) rfl g ?_
        refine ev_aload_n dX0_run_30 0 rfl rfl ?_
        refine ev_iconst dX0_run_31 (mi_c rfl) ?_
        obtain ⟨s3, g, hD⟩ := bd hD
        refine ew_putB 0 14 dX0_run_32 rfl (Nat.le_of_ble_eq_true rfl) w_411 in_X0 tyX0_ok nmX0 (Or.inl rfl) rfl g ?_
        refine ev_iconst dX0_run_35 (mi_c rfl) ?_
        refine ev_istore dX0_run_36 (Nat.le_of_ble_eq_true rfl) rfl ?_
        obtain ⟨r4, g, hD⟩ := bd hD
        refine Ev.pick [1, 2, 3, 4, 0] rfl ?_
        rcases r4 with z5 | z6
        · refine lk_X0_run_38 mFU g ⟨(fun _ hz => ?_), (fun _ hz => nomatch hz)⟩
          cases hz
          refine ev_iinc dX0_run_94 3 rfl (Nat.le_of_ble_eq_true rfl) rfl ?_
          refine ev_goto (tgt := 11) dX0_run_97 (by decide) ?_
          refine Ev.pick [1, 2, 3, 0] rfl ?_
          exact hrec hD hk
        · refine lk_X0_run_38 mFU g ⟨(fun _ hz => nomatch hz), (fun _ hz => ?_)⟩
          cases hz
          cases hD
          exact hk.2 _ rfl
def D_X0_run_100 (σ : mS) : Option mS :=
  some σ
set_option maxRecDepth 100000 in
set_option maxHeartbeats 4000000 in
theorem lk_X0_run_100 {G : mG} {σ : mS} {R : mS} (hD : D_X0_run_100  σ = some R) : Ev G M_X0_run 100 [] [] σ (.inl none) R := by
  unfold D_X0_run_100 at hD
  cases hD
  exact ev_ret none dX0_run_100 True.intro
def D_X0_run (x0 : Nat) (x1 : Int) (x2 : Int) (σ : mS) : Option mS :=
  (tgO σ x0 0).bind fun _ =>
  (D_X0_startFromFirst x0 σ).bind fun r1 =>
  (pB r1 x0 0 14 1).bind fun s2 =>
  (D_X0_run_11 mFU x0 x1 x2 1 s2).bind fun r3 =>
  match r3 with
  | (Sum.inl z4) =>
    D_X0_run_100  z4
  | (Sum.inr z5) =>
    some z5
set_option maxRecDepth 100000 in
set_option maxHeartbeats 4000000 in
theorem lk_X0_run {G : mG} {x0 : Nat} {x1 : Int} {x2 : Int} {σ : mS} {R : mS} (hD : D_X0_run x0 x1 x2 σ = some R) : Ev G M_X0_run 0 [(0, vr x0), (1, vi x1), (2, vi x2)] [] σ (.inl none) R := by
  unfold D_X0_run at hD
  refine ev_aload_n dX0_run_0 0 rfl rfl ?_
  obtain ⟨_, g0, hD⟩ := bd hD
  obtain ⟨r1, g, hD⟩ := bd hD
  refine ew_callV0 (as := []) (a := x0) (rest := []) dX0_run_1 v_X0_startFromFirst w_519 rfl (Nat.le_of_ble_eq_true rfl) rfl rfl g0 (Nat.le_of_ble_eq_true rfl) (Nat.le_of_ble_eq_true rfl) (ct_X0_startFromFirst g) ?_
  refine ev_aload_n dX0_run_4 0 rfl rfl ?_
  refine ev_iconst dX0_run_5 (mi_c rfl) ?_
  obtain ⟨s2, g, hD⟩ := bd hD
  refine ew_putB 0 14 dX0_run_6 rfl (Nat.le_of_ble_eq_true rfl) w_411 in_X0 tyX0_ok nmX0 (Or.inl rfl) rfl g ?_
  refine ev_iconst dX0_run_9 (mi_c rfl) ?_
  refine ev_istore_n dX0_run_10 rfl (Nat.le_of_ble_eq_true rfl) rfl ?_
  obtain ⟨r3, g, hD⟩ := bd hD
  refine Ev.pick [1, 2, 3, 0] rfl ?_
  rcases r3 with z4 | z5
  · refine lk_X0_run_11 mFU g ⟨(fun _ hz => ?_), (fun _ hz => nomatch hz)⟩
    cases hz
    exact lk_X0_run_100 hD
  · refine lk_X0_run_11 mFU g ⟨(fun _ hz => nomatch hz), (fun _ hz => ?_)⟩
    cases hz
    cases hD
    exact ⟨rfl, rfl⟩
theorem ct_X0_run {G : mG} {x0 : Nat} {x1 : Int} {x2 : Int} {σ : mS} {R : mS} (hD : D_X0_run x0 x1 x2 σ = some R) : Ct G M_X0_run [vr x0, vi x1, vi x2] σ (.inl none) R := ct_of rfl (by decide +kernel) rfl (Nat.le_of_ble_eq_true rfl) rfl (lk_X0_run hD)
def D_X0_sameSpans_15 : Nat → Nat → Nat → Int → Int → mS → Option (Unit ⊕ Int)
  | 0, _, _, _, _, _ => none
  | f + 1, x0, x1, x2, x3, σ =>
    if 16 ≤ x3 then
      some (Sum.inl ())
    else
      (gR σ x0 0 3).bind fun v1 =>
      (lR σ v1 x2).bind fun v2 =>
      (lL σ v2 x3).bind fun v3 =>
      (gR σ x1 0 3).bind fun v4 =>
      (lR σ v4 x2).bind fun v5 =>
      (lL σ v5 x3).bind fun v6 =>
      if (mlcmp v3 v6) = 0 then
        (D_X0_sameSpans_15 f) x0 x1 x2 (mw (x3 + 1)) σ
      else
        (bO 0).bind fun v7 =>
        some (Sum.inr v7)
set_option maxRecDepth 100000 in
set_option maxHeartbeats 4000000 in
theorem lk_X0_sameSpans_15 {G : mG} (f : Nat) : ∀ {x0 : Nat} {x1 : Nat} {x2 : Int} {x3 : Int} {σ : mS} {R : (Unit ⊕ Int)}, D_X0_sameSpans_15 f x0 x1 x2 x3 σ = some R → ∀ {r : mX} {τ : mS}, (∀ z, R = (Sum.inl z) → Ev G M_X0_sameSpans 49 [(0, vr x0), (1, vr x1), (2, vi x2)] [] σ r τ) ∧ (∀ z, R = (Sum.inr z) → r = .inl (some (vi z)) ∧ τ = σ) → Ev G M_X0_sameSpans 15 [(0, vr x0), (1, vr x1), (2, vi x2), (3, vi x3)] [] σ r τ := by
  induction f with
  | zero =>
    intros
    rename_i hD _ _ _
    cases hD
  | succ f ih =>
    intro x0 x1 x2 x3 σ R hD r τ hk
    have hrec := @ih
    rw [D_X0_sameSpans_15] at hD
    refine ev_iload_n dX0_sameSpans_15 3 rfl rfl ?_
    refine ev_bp dX0_sameSpans_16 rfl ?_
    by_cases c : 16 ≤ x3
    · rw [if_pos c] at hD
      refine ev_icmp_ge_t (tgt := 49) dX0_sameSpans_18 (by decide) c ?_
      cases hD
      refine Ev.pick [0, 1, 2] rfl ?_
      exact hk.1 _ rfl
    · rw [if_neg c] at hD
      refine ev_icmp_ge_f 49 dX0_sameSpans_18 (by decide) c ?_
      refine ev_aload_n dX0_sameSpans_21 0 rfl rfl ?_
      obtain ⟨v1, g, hD⟩ := bd hD
      refine ew_getR 0 3 dX0_sameSpans_22 rfl (Nat.le_of_ble_eq_true rfl) w_391 in_X0 rfl g ?_
      refine ev_iload_n dX0_sameSpans_25 2 rfl rfl ?_
      obtain ⟨v2, g, hD⟩ := bd hD
      refine ew_aald dX0_sameSpans_26 g ?_
      refine ev_iload_n dX0_sameSpans_27 3 rfl rfl ?_
      obtain ⟨v3, g, hD⟩ := bd hD
      refine ew_lald dX0_sameSpans_28 g ?_
      refine ev_aload_n dX0_sameSpans_29 1 rfl rfl ?_
      obtain ⟨v4, g, hD⟩ := bd hD
      refine ew_getR 0 3 dX0_sameSpans_30 rfl (Nat.le_of_ble_eq_true rfl) w_391 in_X0 rfl g ?_
      refine ev_iload_n dX0_sameSpans_33 2 rfl rfl ?_
      obtain ⟨v5, g, hD⟩ := bd hD
      refine ew_aald dX0_sameSpans_34 g ?_
      refine ev_iload_n dX0_sameSpans_35 3 rfl rfl ?_
      obtain ⟨v6, g, hD⟩ := bd hD
      refine ew_lald dX0_sameSpans_36 g ?_
      refine ev_lcmp dX0_sameSpans_37 ?_
      by_cases c : (mlcmp v3 v6) = 0
      · rw [if_pos c] at hD
        refine ev_if_eq_t (tgt := 43) dX0_sameSpans_38 (by decide) c ?_
        refine ev_iinc dX0_sameSpans_43 3 rfl (Nat.le_of_ble_eq_true rfl) rfl ?_
        refine ev_goto (tgt := 15) dX0_sameSpans_46 (by decide) ?_
        refine Ev.pick [1, 2, 3, 0] rfl ?_
        exact hrec hD hk
      · rw [if_neg c] at hD
        refine ev_if_eq_f 43 dX0_sameSpans_38 (by decide) c ?_
        refine ev_iconst dX0_sameSpans_41 (mi_c rfl) ?_
        obtain ⟨v7, gb, hD⟩ := bd hD
        cases hD
        obtain ⟨rfl, rfl⟩ := hk.2 _ rfl
        exact ew_retb dX0_sameSpans_42 rfl gb
def D_X0_sameSpans_2 : Nat → Nat → Nat → Int → mS → Option (Unit ⊕ Int)
  | 0, _, _, _, _ => none
  | f + 1, x0, x1, x2, σ =>
    (gR σ x0 0 0).bind fun v1 =>
    (gI σ v1 5 3).bind fun v2 =>
    if v2 ≤ x2 then
      some (Sum.inl ())
    else
      (D_X0_sameSpans_15 mFU x0 x1 x2 0 σ).bind fun r3 =>
      match r3 with
      | (Sum.inl z4) =>
        (D_X0_sameSpans_2 f) x0 x1 (mw (x2 + 1)) σ
      | (Sum.inr z5) =>
        some (Sum.inr z5)
set_option maxRecDepth 100000 in
set_option maxHeartbeats 4000000 in
theorem lk_X0_sameSpans_2 {G : mG} (f : Nat) : ∀ {x0 : Nat} {x1 : Nat} {x2 : Int} {σ : mS} {R : (Unit ⊕ Int)}, D_X0_sameSpans_2 f x0 x1 x2 σ = some R → ∀ {r : mX} {τ : mS}, (∀ z, R = (Sum.inl z) → Ev G M_X0_sameSpans 55 [] [] σ r τ) ∧ (∀ z, R = (Sum.inr z) → r = .inl (some (vi z)) ∧ τ = σ) → Ev G M_X0_sameSpans 2 [(0, vr x0), (1, vr x1), (2, vi x2)] [] σ r τ := by
  induction f with
  | zero =>
    intros
    rename_i hD _ _ _
    cases hD
  | succ f ih =>
    intro x0 x1 x2 σ R hD r τ hk
    have hrec := @ih
    rw [D_X0_sameSpans_2] at hD
    refine ev_iload_n dX0_sameSpans_2 2 rfl rfl ?_
    refine ev_aload_n dX0_sameSpans_3 0 rfl rfl ?_
    obtain ⟨v1, g, hD⟩ := bd hD
    refine ew_getR 0 0 dX0_sameSpans_4 rfl (Nat.le_of_ble_eq_true rfl) w_387 in_X0 rfl g ?_
    obtain ⟨v2, g, hD⟩ := bd hD
    refine ew_getI 5 3 dX0_sameSpans_7 rfl (Nat.le_of_ble_eq_true rfl) w_277 in_X5 rfl g ?_
    by_cases c : v2 ≤ x2
    · rw [if_pos c] at hD
      refine ev_icmp_ge_t (tgt := 55) dX0_sameSpans_10 (by decide) c ?_
      cases hD
      refine Ev.pick [] rfl ?_
      exact hk.1 _ rfl
    · rw [if_neg c] at hD
      refine ev_icmp_ge_f 55 dX0_sameSpans_10 (by decide) c ?_
      refine ev_iconst dX0_sameSpans_13 (mi_c rfl) ?_
      refine ev_istore_n dX0_sameSpans_14 rfl (Nat.le_of_ble_eq_true rfl) rfl ?_
      obtain ⟨r3, g, hD⟩ := bd hD
      refine Ev.pick [1, 2, 3, 0] rfl ?_
      rcases r3 with z4 | z5
      · refine lk_X0_sameSpans_15 mFU g ⟨(fun _ hz => ?_), (fun _ hz => nomatch hz)⟩
        cases hz
        refine ev_iinc dX0_sameSpans_49 2 rfl (Nat.le_of_ble_eq_true rfl) rfl ?_
        refine ev_goto (tgt := 2) dX0_sameSpans_52 (by decide) ?_
        refine Ev.pick [1, 2, 0] rfl ?_
        exact hrec hD hk
      · refine lk_X0_sameSpans_15 mFU g ⟨(fun _ hz => nomatch hz), (fun _ hz => ?_)⟩
        cases hz
        cases hD
        exact hk.2 _ rfl
def D_X0_sameSpans (x0 : Nat) (x1 : Nat) (σ : mS) : Option Int :=
  (D_X0_sameSpans_2 mFU x0 x1 0 σ).bind fun r1 =>
  match r1 with
  | (Sum.inl z2) =>
    (bO 1).bind fun v3 =>
    some v3
  | (Sum.inr z4) =>
    some z4
set_option maxRecDepth 100000 in
set_option maxHeartbeats 4000000 in
theorem lk_X0_sameSpans {G : mG} {x0 : Nat} {x1 : Nat} {σ : mS} {R : Int} (hD : D_X0_sameSpans x0 x1 σ = some R) : Ev G M_X0_sameSpans 0 [(0, vr x0), (1, vr x1)] [] σ (.inl (some (vi R))) σ := by
  unfold D_X0_sameSpans at hD
  refine ev_iconst dX0_sameSpans_0 (mi_c rfl) ?_
  refine ev_istore_n dX0_sameSpans_1 rfl (Nat.le_of_ble_eq_true rfl) rfl ?_
  obtain ⟨r1, g, hD⟩ := bd hD
  refine Ev.pick [1, 2, 0] rfl ?_
  rcases r1 with z2 | z4
  · refine lk_X0_sameSpans_2 mFU g ⟨(fun _ hz => ?_), (fun _ hz => nomatch hz)⟩
    cases hz
    refine ev_iconst dX0_sameSpans_55 (mi_c rfl) ?_
    obtain ⟨v3, gb, hD⟩ := bd hD
    cases hD
    exact ew_retb dX0_sameSpans_56 rfl gb
  · refine lk_X0_sameSpans_2 mFU g ⟨(fun _ hz => nomatch hz), (fun _ hz => ?_)⟩
    cases hz
    cases hD
    exact ⟨rfl, rfl⟩
theorem ct_X0_sameSpans {G : mG} {x0 : Nat} {x1 : Nat} {σ : mS} {R : Int} (hD : D_X0_sameSpans x0 x1 σ = some R) : Ct G M_X0_sameSpans [vr x0, vr x1] σ (.inl (some (vi R))) σ := ct_of rfl (by decide +kernel) rfl (Nat.le_of_ble_eq_true rfl) rfl (lk_X0_sameSpans hD)
def D_X0_yearsOfAll_4 : Nat → Nat → Int → Int → mS → Option Int
  | 0, _, _, _, _ => none
  | f + 1, x0, x1, x2, σ =>
    (gR σ x0 0 0).bind fun v1 =>
    (gI σ v1 5 3).bind fun v2 =>
    if v2 ≤ x2 then
      some x1
    else
      (gR σ x0 0 4).bind fun v3 =>
      (lI σ v3 x2).bind fun v4 =>
      (D_X0_yearsOfAll_4 f) x0 (mw (x1 + v4)) (mw (x2 + 1)) σ
set_option maxRecDepth 100000 in
set_option maxHeartbeats 4000000 in
theorem lk_X0_yearsOfAll_4 {G : mG} (f : Nat) : ∀ {x0 : Nat} {x1 : Int} {x2 : Int} {σ : mS} {R : Int}, D_X0_yearsOfAll_4 f x0 x1 x2 σ = some R → ∀ {r : mX} {τ : mS}, Ev G M_X0_yearsOfAll 30 [(1, vi (R))] [] σ r τ → Ev G M_X0_yearsOfAll 4 [(0, vr x0), (1, vi x1), (2, vi x2)] [] σ r τ := by
  induction f with
  | zero =>
    intros
    rename_i hD _ _ _
    cases hD
  | succ f ih =>
    intro x0 x1 x2 σ R hD r τ hk
    have hrec := @ih
    rw [D_X0_yearsOfAll_4] at hD
    refine ev_iload_n dX0_yearsOfAll_4 2 rfl rfl ?_
    refine ev_aload_n dX0_yearsOfAll_5 0 rfl rfl ?_
    obtain ⟨v1, g, hD⟩ := bd hD
    refine ew_getR 0 0 dX0_yearsOfAll_6 rfl (Nat.le_of_ble_eq_true rfl) w_387 in_X0 rfl g ?_
    obtain ⟨v2, g, hD⟩ := bd hD
    refine ew_getI 5 3 dX0_yearsOfAll_9 rfl (Nat.le_of_ble_eq_true rfl) w_277 in_X5 rfl g ?_
    by_cases c : v2 ≤ x2
    · rw [if_pos c] at hD
      refine ev_icmp_ge_t (tgt := 30) dX0_yearsOfAll_12 (by decide) c ?_
      cases hD
      refine Ev.pick [1] rfl ?_
      exact hk
    · rw [if_neg c] at hD
      refine ev_icmp_ge_f 30 dX0_yearsOfAll_12 (by decide) c ?_
      refine ev_iload_n dX0_yearsOfAll_15 1 rfl rfl ?_
      refine ev_aload_n dX0_yearsOfAll_16 0 rfl rfl ?_
      obtain ⟨v3, g, hD⟩ := bd hD
      refine ew_getR 0 4 dX0_yearsOfAll_17 rfl (Nat.le_of_ble_eq_true rfl) w_394 in_X0 rfl g ?_
      refine ev_iload_n dX0_yearsOfAll_20 2 rfl rfl ?_
      obtain ⟨v4, g, hD⟩ := bd hD
      refine ew_iald dX0_yearsOfAll_21 g ?_
      refine ev_iadd dX0_yearsOfAll_22 ?_
      refine ev_istore_n dX0_yearsOfAll_23 rfl (Nat.le_of_ble_eq_true rfl) rfl ?_
      refine ev_iinc dX0_yearsOfAll_24 2 rfl (Nat.le_of_ble_eq_true rfl) rfl ?_
      refine ev_goto (tgt := 4) dX0_yearsOfAll_27 (by decide) ?_
      refine Ev.pick [2, 1, 0] rfl ?_
      exact hrec hD hk
def D_X0_yearsOfAll (x0 : Nat) (σ : mS) : Option Int :=
  (D_X0_yearsOfAll_4 mFU x0 0 0 σ).bind fun r1 =>
  some r1
set_option maxRecDepth 100000 in
set_option maxHeartbeats 4000000 in
theorem lk_X0_yearsOfAll {G : mG} {x0 : Nat} {σ : mS} {R : Int} (hD : D_X0_yearsOfAll x0 σ = some R) : Ev G M_X0_yearsOfAll 0 [(0, vr x0)] [] σ (.inl (some (vi R))) σ := by
  unfold D_X0_yearsOfAll at hD
  refine ev_iconst dX0_yearsOfAll_0 (mi_c rfl) ?_
  refine ev_istore_n dX0_yearsOfAll_1 rfl (Nat.le_of_ble_eq_true rfl) rfl ?_
  refine ev_iconst dX0_yearsOfAll_2 (mi_c rfl) ?_
  refine ev_istore_n dX0_yearsOfAll_3 rfl (Nat.le_of_ble_eq_true rfl) rfl ?_
  obtain ⟨r1, g, hD⟩ := bd hD
  refine Ev.pick [2, 1, 0] rfl ?_
  refine lk_X0_yearsOfAll_4 mFU g ?_
  refine ev_iload_n dX0_yearsOfAll_30 0 rfl rfl ?_
  cases hD
  exact ev_ret (some (vi _)) dX0_yearsOfAll_31 True.intro
theorem ct_X0_yearsOfAll {G : mG} {x0 : Nat} {σ : mS} {R : Int} (hD : D_X0_yearsOfAll x0 σ = some R) : Ct G M_X0_yearsOfAll [vr x0] σ (.inl (some (vi R))) σ := ct_of rfl (by decide +kernel) rfl (Nat.le_of_ble_eq_true rfl) rfl (lk_X0_yearsOfAll hD)
def D_X0_emptySpans_30 (rec : Nat → Int → Int → mS → Option Int) (x0 : Nat) (x2 : Int) (y0 : Int) (y1 : Int) (σ : mS) : Option Int :=
  rec x0 (mw (y1 + y0)) (mw (x2 + 1)) σ
set_option maxRecDepth 100000 in
set_option maxHeartbeats 4000000 in
theorem lk_X0_emptySpans_30 {G : mG} {rec : Nat → Int → Int → mS → Option Int} {x0 : Nat} {x2 : Int} {y0 : Int} {y1 : Int} {σ : mS} {R : Int} {r : mX} {τ : mS} (hD : D_X0_emptySpans_30 rec x0 x2 y0 y1 σ = some R) (hrec : ∀ {x0 : Nat} {x1 : Int} {x2 : Int} {σ : mS} {R : Int}, rec x0 x1 x2 σ = some R → ∀ {r : mX} {τ : mS}, Ev G M_X0_emptySpans 38 [(1, vi (R))] [] σ r τ → Ev G M_X0_emptySpans 4 [(0, vr x0), (1, vi x1), (2, vi x2)] [] σ r τ) (hk : Ev G M_X0_emptySpans 38 [(1, vi (R))] [] σ r τ) : Ev G M_X0_emptySpans 30 [(0, vr x0), (2, vi x2)] [vi y0, vi y1] σ r τ := by
  unfold D_X0_emptySpans_30 at hD
  refine ev_iadd dX0_emptySpans_30 ?_
  refine ev_istore_n dX0_emptySpans_31 rfl (Nat.le_of_ble_eq_true rfl) rfl ?_
  refine ev_iinc dX0_emptySpans_32 2 rfl (Nat.le_of_ble_eq_true rfl) rfl ?_
  refine ev_goto (tgt := 4) dX0_emptySpans_35 (by decide) ?_
  refine Ev.pick [2, 1, 0] rfl ?_
  exact hrec hD hk
def D_X0_emptySpans_4 : Nat → Nat → Int → Int → mS → Option Int
  | 0, _, _, _, _ => none
  | f + 1, x0, x1, x2, σ =>
    (gR σ x0 0 0).bind fun v1 =>
    (gI σ v1 5 3).bind fun v2 =>
    if v2 ≤ x2 then
      some x1
    else
      (gR σ x0 0 4).bind fun v3 =>
      (lI σ v3 x2).bind fun v4 =>
      if v4 ≠ 0 then
        D_X0_emptySpans_30 (D_X0_emptySpans_4 f) x0 x2 0 x1 σ
      else
        D_X0_emptySpans_30 (D_X0_emptySpans_4 f) x0 x2 1 x1 σ
set_option maxRecDepth 100000 in
set_option maxHeartbeats 4000000 in
theorem lk_X0_emptySpans_4 {G : mG} (f : Nat) : ∀ {x0 : Nat} {x1 : Int} {x2 : Int} {σ : mS} {R : Int}, D_X0_emptySpans_4 f x0 x1 x2 σ = some R → ∀ {r : mX} {τ : mS}, Ev G M_X0_emptySpans 38 [(1, vi (R))] [] σ r τ → Ev G M_X0_emptySpans 4 [(0, vr x0), (1, vi x1), (2, vi x2)] [] σ r τ := by
  induction f with
  | zero =>
    intros
    rename_i hD _ _ _
    cases hD
  | succ f ih =>
    intro x0 x1 x2 σ R hD r τ hk
    have hrec := @ih
    rw [D_X0_emptySpans_4] at hD
    refine ev_iload_n dX0_emptySpans_4 2 rfl rfl ?_
    refine ev_aload_n dX0_emptySpans_5 0 rfl rfl ?_
    obtain ⟨v1, g, hD⟩ := bd hD
    refine ew_getR 0 0 dX0_emptySpans_6 rfl (Nat.le_of_ble_eq_true rfl) w_387 in_X0 rfl g ?_
    obtain ⟨v2, g, hD⟩ := bd hD
    refine ew_getI 5 3 dX0_emptySpans_9 rfl (Nat.le_of_ble_eq_true rfl) w_277 in_X5 rfl g ?_
    by_cases c : v2 ≤ x2
    · rw [if_pos c] at hD
      refine ev_icmp_ge_t (tgt := 38) dX0_emptySpans_12 (by decide) c ?_
      cases hD
      refine Ev.pick [1] rfl ?_
      exact hk
    · rw [if_neg c] at hD
      refine ev_icmp_ge_f 38 dX0_emptySpans_12 (by decide) c ?_
      refine ev_iload_n dX0_emptySpans_15 1 rfl rfl ?_
      refine ev_aload_n dX0_emptySpans_16 0 rfl rfl ?_
      obtain ⟨v3, g, hD⟩ := bd hD
      refine ew_getR 0 4 dX0_emptySpans_17 rfl (Nat.le_of_ble_eq_true rfl) w_394 in_X0 rfl g ?_
      refine ev_iload_n dX0_emptySpans_20 2 rfl rfl ?_
      obtain ⟨v4, g, hD⟩ := bd hD
      refine ew_iald dX0_emptySpans_21 g ?_
      by_cases c : v4 ≠ 0
      · rw [if_pos c] at hD
        refine ev_if_ne_t (tgt := 29) dX0_emptySpans_22 (by decide) c ?_
        refine ev_iconst dX0_emptySpans_29 (mi_c rfl) ?_
        refine Ev.pick [0, 2] rfl ?_
        exact lk_X0_emptySpans_30 hD hrec hk
      · rw [if_neg c] at hD
        refine ev_if_ne_f 29 dX0_emptySpans_22 (by decide) c ?_
        refine ev_iconst dX0_emptySpans_25 (mi_c rfl) ?_
        refine ev_goto (tgt := 30) dX0_emptySpans_26 (by decide) ?_
        refine Ev.pick [0, 2] rfl ?_
        exact lk_X0_emptySpans_30 hD hrec hk
def D_X0_emptySpans (x0 : Nat) (σ : mS) : Option Int :=
  (D_X0_emptySpans_4 mFU x0 0 0 σ).bind fun r1 =>
  some r1
set_option maxRecDepth 100000 in
set_option maxHeartbeats 4000000 in
theorem lk_X0_emptySpans {G : mG} {x0 : Nat} {σ : mS} {R : Int} (hD : D_X0_emptySpans x0 σ = some R) : Ev G M_X0_emptySpans 0 [(0, vr x0)] [] σ (.inl (some (vi R))) σ := by
  unfold D_X0_emptySpans at hD
  refine ev_iconst dX0_emptySpans_0 (mi_c rfl) ?_
  refine ev_istore_n dX0_emptySpans_1 rfl (Nat.le_of_ble_eq_true rfl) rfl ?_
  refine ev_iconst dX0_emptySpans_2 (mi_c rfl) ?_
  refine ev_istore_n dX0_emptySpans_3 rfl (Nat.le_of_ble_eq_true rfl) rfl ?_
  obtain ⟨r1, g, hD⟩ := bd hD
  refine Ev.pick [2, 1, 0] rfl ?_
  refine lk_X0_emptySpans_4 mFU g ?_
  refine ev_iload_n dX0_emptySpans_38 0 rfl rfl ?_
  cases hD
  exact ev_ret (some (vi _)) dX0_emptySpans_39 True.intro
theorem ct_X0_emptySpans {G : mG} {x0 : Nat} {σ : mS} {R : Int} (hD : D_X0_emptySpans x0 σ = some R) : Ct G M_X0_emptySpans [vr x0] σ (.inl (some (vi R))) σ := ct_of rfl (by decide +kernel) rfl (Nat.le_of_ble_eq_true rfl) rfl (lk_X0_emptySpans hD)
def D_X0_goneOfAll_4 : Nat → Nat → Int → Int → mS → Option Int
  | 0, _, _, _, _ => none
  | f + 1, x0, x1, x2, σ =>
    (gR σ x0 0 0).bind fun v1 =>
    (gI σ v1 5 5).bind fun v2 =>
    if v2 ≤ x2 then
      some x1
    else
      (gR σ x0 0 7).bind fun v3 =>
      (lI σ v3 x2).bind fun v4 =>
      (D_X0_goneOfAll_4 f) x0 (mw (x1 + v4)) (mw (x2 + 1)) σ
set_option maxRecDepth 100000 in
set_option maxHeartbeats 4000000 in
theorem lk_X0_goneOfAll_4 {G : mG} (f : Nat) : ∀ {x0 : Nat} {x1 : Int} {x2 : Int} {σ : mS} {R : Int}, D_X0_goneOfAll_4 f x0 x1 x2 σ = some R → ∀ {r : mX} {τ : mS}, Ev G M_X0_goneOfAll 30 [(1, vi (R))] [] σ r τ → Ev G M_X0_goneOfAll 4 [(0, vr x0), (1, vi x1), (2, vi x2)] [] σ r τ := by
  induction f with
  | zero =>
    intros
    rename_i hD _ _ _
    cases hD
  | succ f ih =>
    intro x0 x1 x2 σ R hD r τ hk
    have hrec := @ih
    rw [D_X0_goneOfAll_4] at hD
    refine ev_iload_n dX0_goneOfAll_4 2 rfl rfl ?_
    refine ev_aload_n dX0_goneOfAll_5 0 rfl rfl ?_
    obtain ⟨v1, g, hD⟩ := bd hD
    refine ew_getR 0 0 dX0_goneOfAll_6 rfl (Nat.le_of_ble_eq_true rfl) w_387 in_X0 rfl g ?_
    obtain ⟨v2, g, hD⟩ := bd hD
    refine ew_getI 5 5 dX0_goneOfAll_9 rfl (Nat.le_of_ble_eq_true rfl) w_286 in_X5 rfl g ?_
    by_cases c : v2 ≤ x2
    · rw [if_pos c] at hD
      refine ev_icmp_ge_t (tgt := 30) dX0_goneOfAll_12 (by decide) c ?_
      cases hD
      refine Ev.pick [1] rfl ?_
      exact hk
    · rw [if_neg c] at hD
      refine ev_icmp_ge_f 30 dX0_goneOfAll_12 (by decide) c ?_
      refine ev_iload_n dX0_goneOfAll_15 1 rfl rfl ?_
      refine ev_aload_n dX0_goneOfAll_16 0 rfl rfl ?_
      obtain ⟨v3, g, hD⟩ := bd hD
      refine ew_getR 0 7 dX0_goneOfAll_17 rfl (Nat.le_of_ble_eq_true rfl) w_400 in_X0 rfl g ?_
      refine ev_iload_n dX0_goneOfAll_20 2 rfl rfl ?_
      obtain ⟨v4, g, hD⟩ := bd hD
      refine ew_iald dX0_goneOfAll_21 g ?_
      refine ev_iadd dX0_goneOfAll_22 ?_
      refine ev_istore_n dX0_goneOfAll_23 rfl (Nat.le_of_ble_eq_true rfl) rfl ?_
      refine ev_iinc dX0_goneOfAll_24 2 rfl (Nat.le_of_ble_eq_true rfl) rfl ?_
      refine ev_goto (tgt := 4) dX0_goneOfAll_27 (by decide) ?_
      refine Ev.pick [2, 1, 0] rfl ?_
      exact hrec hD hk
def D_X0_goneOfAll (x0 : Nat) (σ : mS) : Option Int :=
  (D_X0_goneOfAll_4 mFU x0 0 0 σ).bind fun r1 =>
  some r1
set_option maxRecDepth 100000 in
set_option maxHeartbeats 4000000 in
theorem lk_X0_goneOfAll {G : mG} {x0 : Nat} {σ : mS} {R : Int} (hD : D_X0_goneOfAll x0 σ = some R) : Ev G M_X0_goneOfAll 0 [(0, vr x0)] [] σ (.inl (some (vi R))) σ := by
  unfold D_X0_goneOfAll at hD
  refine ev_iconst dX0_goneOfAll_0 (mi_c rfl) ?_
  refine ev_istore_n dX0_goneOfAll_1 rfl (Nat.le_of_ble_eq_true rfl) rfl ?_
  refine ev_iconst dX0_goneOfAll_2 (mi_c rfl) ?_
  refine ev_istore_n dX0_goneOfAll_3 rfl (Nat.le_of_ble_eq_true rfl) rfl ?_
  obtain ⟨r1, g, hD⟩ := bd hD
  refine Ev.pick [2, 1, 0] rfl ?_
  refine lk_X0_goneOfAll_4 mFU g ?_
  refine ev_iload_n dX0_goneOfAll_30 0 rfl rfl ?_
  cases hD
  exact ev_ret (some (vi _)) dX0_goneOfAll_31 True.intro
theorem ct_X0_goneOfAll {G : mG} {x0 : Nat} {σ : mS} {R : Int} (hD : D_X0_goneOfAll x0 σ = some R) : Ct G M_X0_goneOfAll [vr x0] σ (.inl (some (vi R))) σ := ct_of rfl (by decide +kernel) rfl (Nat.le_of_ble_eq_true rfl) rfl (lk_X0_goneOfAll hD)
def D_X0_bestYear_76 (rec : Nat → Int → Int → Int → Int → Int → mS → Option Int) (x0 : Nat) (x1 : Int) (x2 : Int) (x3 : Int) (x4 : Int) (x5 : Int) (σ : mS) : Option Int :=
  (gR σ x0 0 3).bind fun v1 =>
  (lR σ v1 x1).bind fun v2 =>
  (D_X7_nextIn v2 (mw (x4 + 1)) σ).bind fun r3 =>
  rec x0 x1 x2 x3 r3 (mw (x5 + 1)) σ
set_option maxRecDepth 100000 in
set_option maxHeartbeats 4000000 in
theorem lk_X0_bestYear_76 {G : mG} {rec : Nat → Int → Int → Int → Int → Int → mS → Option Int} {x0 : Nat} {x1 : Int} {x2 : Int} {x3 : Int} {x4 : Int} {x5 : Int} {σ : mS} {R : Int} {r : mX} {τ : mS} (hD : D_X0_bestYear_76 rec x0 x1 x2 x3 x4 x5 σ = some R) (hrec : ∀ {x0 : Nat} {x1 : Int} {x2 : Int} {x3 : Int} {x4 : Int} {x5 : Int} {σ : mS} {R : Int}, rec x0 x1 x2 x3 x4 x5 σ = some R → ∀ {r : mX} {τ : mS}, Ev G M_X0_bestYear 97 [(2, vi (R))] [] σ r τ → Ev G M_X0_bestYear 19 [(0, vr x0), (1, vi x1), (2, vi x2), (3, vi x3), (4, vi x4), (5, vi x5)] [] σ r τ) (hk : Ev G M_X0_bestYear 97 [(2, vi (R))] [] σ r τ) : Ev G M_X0_bestYear 76 [(0, vr x0), (1, vi x1), (2, vi x2), (3, vi x3), (4, vi x4), (5, vi x5)] [] σ r τ := by
  unfold D_X0_bestYear_76 at hD
  refine ev_aload_n dX0_bestYear_76 0 rfl rfl ?_
  obtain ⟨v1, g, hD⟩ := bd hD
  refine ew_getR 0 3 dX0_bestYear_77 rfl (Nat.le_of_ble_eq_true rfl) w_391 in_X0 rfl g ?_
  refine ev_iload_n dX0_bestYear_80 1 rfl rfl ?_
  obtain ⟨v2, g, hD⟩ := bd hD
  refine ew_aald dX0_bestYear_81 g ?_
  refine ev_iload dX0_bestYear_82 4 rfl ?_
  refine ev_iconst dX0_bestYear_84 (mi_c rfl) ?_
  refine ev_iadd dX0_bestYear_85 ?_
  obtain ⟨r3, g, hD⟩ := bd hD
  refine ew_callSv (as := [vr v2, vi (mw (x4 + 1))]) (rest := []) dX0_bestYear_86 v_X7_nextIn w_579 rfl (Nat.le_of_ble_eq_true rfl) (Nat.le_of_ble_eq_true rfl) (Nat.le_of_ble_eq_true rfl) (ct_X7_nextIn g) ?_
  refine ev_istore dX0_bestYear_89 (Nat.le_of_ble_eq_true rfl) rfl ?_
  refine ev_iinc dX0_bestYear_91 5 rfl (Nat.le_of_ble_eq_true rfl) rfl ?_
  refine ev_goto (tgt := 19) dX0_bestYear_94 (by decide) ?_
  refine Ev.pick [2, 3, 4, 5, 1, 0] rfl ?_
  exact hrec hD hk
def D_X0_bestYear_70 (rec : Nat → Int → Int → Int → Int → Int → mS → Option Int) (x0 : Nat) (x1 : Int) (x4 : Int) (x5 : Int) (x6 : Int) (σ : mS) : Option Int :=
  D_X0_bestYear_76 rec x0 x1 x4 x6 x4 x5 σ
set_option maxRecDepth 100000 in
set_option maxHeartbeats 4000000 in
theorem lk_X0_bestYear_70 {G : mG} {rec : Nat → Int → Int → Int → Int → Int → mS → Option Int} {x0 : Nat} {x1 : Int} {x4 : Int} {x5 : Int} {x6 : Int} {σ : mS} {R : Int} {r : mX} {τ : mS} (hD : D_X0_bestYear_70 rec x0 x1 x4 x5 x6 σ = some R) (hrec : ∀ {x0 : Nat} {x1 : Int} {x2 : Int} {x3 : Int} {x4 : Int} {x5 : Int} {σ : mS} {R : Int}, rec x0 x1 x2 x3 x4 x5 σ = some R → ∀ {r : mX} {τ : mS}, Ev G M_X0_bestYear 97 [(2, vi (R))] [] σ r τ → Ev G M_X0_bestYear 19 [(0, vr x0), (1, vi x1), (2, vi x2), (3, vi x3), (4, vi x4), (5, vi x5)] [] σ r τ) (hk : Ev G M_X0_bestYear 97 [(2, vi (R))] [] σ r τ) : Ev G M_X0_bestYear 70 [(0, vr x0), (1, vi x1), (4, vi x4), (5, vi x5), (6, vi x6)] [] σ r τ := by
  unfold D_X0_bestYear_70 at hD
  refine ev_iload dX0_bestYear_70 2 rfl ?_
  refine ev_istore_n dX0_bestYear_72 rfl (Nat.le_of_ble_eq_true rfl) rfl ?_
  refine ev_iload dX0_bestYear_73 5 rfl ?_
  refine ev_istore_n dX0_bestYear_75 rfl (Nat.le_of_ble_eq_true rfl) rfl ?_
  refine Ev.pick [2, 3, 1, 0, 4, 5] rfl ?_
  exact lk_X0_bestYear_76 hD hrec hk
def D_X0_bestYear_19 : Nat → Nat → Int → Int → Int → Int → Int → mS → Option Int
  | 0, _, _, _, _, _, _, _ => none
  | f + 1, x0, x1, x2, x3, x4, x5, σ =>
    if 1000 ≤ x5 then
      some x2
    else
      if 1000 ≤ x4 then
        some x2
      else
        (gR σ x0 0 0).bind fun v1 =>
        (gR σ v1 5 8).bind fun v2 =>
        (lR σ v2 x1).bind fun v3 =>
        (gR σ x0 0 0).bind fun v4 =>
        (gI σ v4 5 1).bind fun v5 =>
        (tgO σ x0 0).bind fun _ =>
        (D_X0_misfitOf x0 v3 x4 v5 σ).bind fun r6 =>
        if x2 = ((-1)) then
          D_X0_bestYear_70 (D_X0_bestYear_19 f) x0 x1 x4 x5 r6 σ
        else
          if x3 ≤ r6 then
            D_X0_bestYear_76 (D_X0_bestYear_19 f) x0 x1 x2 x3 x4 x5 σ
          else
            D_X0_bestYear_70 (D_X0_bestYear_19 f) x0 x1 x4 x5 r6 σ
set_option maxRecDepth 100000 in
set_option maxHeartbeats 4000000 in
theorem lk_X0_bestYear_19 {G : mG} (f : Nat) : ∀ {x0 : Nat} {x1 : Int} {x2 : Int} {x3 : Int} {x4 : Int} {x5 : Int} {σ : mS} {R : Int}, D_X0_bestYear_19 f x0 x1 x2 x3 x4 x5 σ = some R → ∀ {r : mX} {τ : mS}, Ev G M_X0_bestYear 97 [(2, vi (R))] [] σ r τ → Ev G M_X0_bestYear 19 [(0, vr x0), (1, vi x1), (2, vi x2), (3, vi x3), (4, vi x4), (5, vi x5)] [] σ r τ := by
  induction f with
  | zero =>
    intros
    rename_i hD _ _ _
    cases hD
  | succ f ih =>
    intro x0 x1 x2 x3 x4 x5 σ R hD r τ hk
    have hrec := @ih
    rw [D_X0_bestYear_19] at hD
    refine ev_iload dX0_bestYear_19 5 rfl ?_
    refine ev_sp dX0_bestYear_21 rfl ?_
    by_cases c : 1000 ≤ x5
    · rw [if_pos c] at hD
      refine ev_icmp_ge_t (tgt := 97) dX0_bestYear_24 (by decide) c ?_
      cases hD
      refine Ev.pick [2] rfl ?_
      exact hk
    · rw [if_neg c] at hD
      refine ev_icmp_ge_f 97 dX0_bestYear_24 (by decide) c ?_
      refine ev_iload dX0_bestYear_27 4 rfl ?_
      refine ev_sp dX0_bestYear_29 rfl ?_
      by_cases c : 1000 ≤ x4
      · rw [if_pos c] at hD
        refine ev_icmp_ge_t (tgt := 97) dX0_bestYear_32 (by decide) c ?_
        cases hD
        refine Ev.pick [2] rfl ?_
        exact hk
      · rw [if_neg c] at hD
        refine ev_icmp_ge_f 97 dX0_bestYear_32 (by decide) c ?_
        refine ev_aload_n dX0_bestYear_35 0 rfl rfl ?_
        refine ev_aload_n dX0_bestYear_36 0 rfl rfl ?_
        obtain ⟨v1, g, hD⟩ := bd hD
        refine ew_getR 0 0 dX0_bestYear_37 rfl (Nat.le_of_ble_eq_true rfl) w_387 in_X0 rfl g ?_
        obtain ⟨v2, g, hD⟩ := bd hD
        refine ew_getR 5 8 dX0_bestYear_40 rfl (Nat.le_of_ble_eq_true rfl) w_295 in_X5 rfl g ?_
        refine ev_iload_n dX0_bestYear_43 1 rfl rfl ?_
        obtain ⟨v3, g, hD⟩ := bd hD
        refine ew_aald dX0_bestYear_44 g ?_
        refine ev_iload dX0_bestYear_45 4 rfl ?_
        refine ev_aload_n dX0_bestYear_47 0 rfl rfl ?_
        obtain ⟨v4, g, hD⟩ := bd hD
        refine ew_getR 0 0 dX0_bestYear_48 rfl (Nat.le_of_ble_eq_true rfl) w_387 in_X0 rfl g ?_
        obtain ⟨v5, g, hD⟩ := bd hD
        refine ew_getI 5 1 dX0_bestYear_51 rfl (Nat.le_of_ble_eq_true rfl) w_271 in_X5 rfl g ?_
        obtain ⟨_, g0, hD⟩ := bd hD
        obtain ⟨r6, g, hD⟩ := bd hD
        refine ew_callVv (as := [vr v3, vi x4, vi v5]) (a := x0) (rest := []) dX0_bestYear_54 v_X0_misfitOf w_501 rfl (Nat.le_of_ble_eq_true rfl) rfl rfl g0 (Nat.le_of_ble_eq_true rfl) (Nat.le_of_ble_eq_true rfl) (ct_X0_misfitOf g) ?_
        refine ev_istore dX0_bestYear_57 (Nat.le_of_ble_eq_true rfl) rfl ?_
        refine ev_iload_n dX0_bestYear_59 3 rfl rfl ?_
        refine ev_iconst dX0_bestYear_60 (mi_c rfl) ?_
        by_cases c : x2 = ((-1))
        · rw [if_pos c] at hD
          refine ev_icmp_eq_t (tgt := 70) dX0_bestYear_61 (by decide) c ?_
          refine Ev.pick [1, 2, 5, 6, 0] rfl ?_
          exact lk_X0_bestYear_70 hD hrec hk
        · rw [if_neg c] at hD
          refine ev_icmp_eq_f 70 dX0_bestYear_61 (by decide) c ?_
          refine ev_iload dX0_bestYear_64 0 rfl ?_
          refine ev_iload_n dX0_bestYear_66 4 rfl rfl ?_
          by_cases c : x3 ≤ r6
          · rw [if_pos c] at hD
            refine ev_icmp_ge_t (tgt := 76) dX0_bestYear_67 (by decide) c ?_
            refine Ev.pick [1, 2, 3, 4, 5, 6] rfl ?_
            exact lk_X0_bestYear_76 hD hrec hk
          · rw [if_neg c] at hD
            refine ev_icmp_ge_f 76 dX0_bestYear_67 (by decide) c ?_
            refine Ev.pick [1, 2, 5, 6, 0] rfl ?_
            exact lk_X0_bestYear_70 hD hrec hk
def D_X0_bestYear_97 (x2 : Int) (σ : mS) : Option Int :=
  some x2
set_option maxRecDepth 100000 in
set_option maxHeartbeats 4000000 in
theorem lk_X0_bestYear_97 {G : mG} {x2 : Int} {σ : mS} {R : Int} (hD : D_X0_bestYear_97 x2 σ = some R) : Ev G M_X0_bestYear 97 [(2, vi x2)] [] σ (.inl (some (vi R))) σ := by
  unfold D_X0_bestYear_97 at hD
  refine ev_iload_n dX0_bestYear_97 0 rfl rfl ?_
  cases hD
  exact ev_ret (some (vi _)) dX0_bestYear_98 True.intro
def D_X0_bestYear (x0 : Nat) (x1 : Int) (σ : mS) : Option Int :=
  (gR σ x0 0 3).bind fun v1 =>
  (lR σ v1 x1).bind fun v2 =>
  (D_X7_nextIn v2 0 σ).bind fun r3 =>
  (D_X0_bestYear_19 mFU x0 x1 ((-1)) 0 r3 0 σ).bind fun r4 =>
  D_X0_bestYear_97 r4 σ
set_option maxRecDepth 100000 in
set_option maxHeartbeats 4000000 in
theorem lk_X0_bestYear {G : mG} {x0 : Nat} {x1 : Int} {σ : mS} {R : Int} (hD : D_X0_bestYear x0 x1 σ = some R) : Ev G M_X0_bestYear 0 [(0, vr x0), (1, vi x1)] [] σ (.inl (some (vi R))) σ := by
  unfold D_X0_bestYear at hD
  refine ev_iconst dX0_bestYear_0 (mi_c rfl) ?_
  refine ev_istore_n dX0_bestYear_1 rfl (Nat.le_of_ble_eq_true rfl) rfl ?_
  refine ev_iconst dX0_bestYear_2 (mi_c rfl) ?_
  refine ev_istore_n dX0_bestYear_3 rfl (Nat.le_of_ble_eq_true rfl) rfl ?_
  refine ev_aload_n dX0_bestYear_4 2 rfl rfl ?_
  obtain ⟨v1, g, hD⟩ := bd hD
  refine ew_getR 0 3 dX0_bestYear_5 rfl (Nat.le_of_ble_eq_true rfl) w_391 in_X0 rfl g ?_
  refine ev_iload_n dX0_bestYear_8 3 rfl rfl ?_
  obtain ⟨v2, g, hD⟩ := bd hD
  refine ew_aald dX0_bestYear_9 g ?_
  refine ev_iconst dX0_bestYear_10 (mi_c rfl) ?_
  obtain ⟨r3, g, hD⟩ := bd hD
  refine ew_callSv (as := [vr v2, vi 0]) (rest := []) dX0_bestYear_11 v_X7_nextIn w_579 rfl (Nat.le_of_ble_eq_true rfl) (Nat.le_of_ble_eq_true rfl) (Nat.le_of_ble_eq_true rfl) (ct_X7_nextIn g) ?_
  refine ev_istore dX0_bestYear_14 (Nat.le_of_ble_eq_true rfl) rfl ?_
  refine ev_iconst dX0_bestYear_16 (mi_c rfl) ?_
  refine ev_istore dX0_bestYear_17 (Nat.le_of_ble_eq_true rfl) rfl ?_
  obtain ⟨r4, g, hD⟩ := bd hD
  refine Ev.pick [4, 5, 3, 2, 1, 0] rfl ?_
  refine lk_X0_bestYear_19 mFU g ?_
  exact lk_X0_bestYear_97 hD
theorem ct_X0_bestYear {G : mG} {x0 : Nat} {x1 : Int} {σ : mS} {R : Int} (hD : D_X0_bestYear x0 x1 σ = some R) : Ct G M_X0_bestYear [vr x0, vi x1] σ (.inl (some (vi R))) σ := ct_of rfl (by decide +kernel) rfl (Nat.le_of_ble_eq_true rfl) rfl (lk_X0_bestYear hD)
def D_X0_ofPhase_122 (rec : Nat → Nat → Int → Int → Int → Int → Int → Int → mS → Option (Int × Int × Int × Int × Int)) (x0 : Nat) (x1 : Nat) (x3 : Int) (x4 : Int) (x5 : Int) (x6 : Int) (x7 : Int) (x8 : Int) (σ : mS) : Option (Int × Int × Int × Int × Int) :=
  rec x0 x1 x3 x4 x5 x6 x7 (mw (x8 + 1)) σ
set_option maxRecDepth 100000 in
set_option maxHeartbeats 4000000 in
theorem lk_X0_ofPhase_122 {G : mG} {rec : Nat → Nat → Int → Int → Int → Int → Int → Int → mS → Option (Int × Int × Int × Int × Int)} {x0 : Nat} {x1 : Nat} {x2 : Int} {x3 : Int} {x4 : Int} {x5 : Int} {x6 : Int} {x7 : Int} {x8 : Int} {σ : mS} {R : (Int × Int × Int × Int × Int)} {r : mX} {τ : mS} (hD : D_X0_ofPhase_122 rec x0 x1 x3 x4 x5 x6 x7 x8 σ = some R) (hrec : ∀ {x0 : Nat} {x1 : Nat} {x3 : Int} {x4 : Int} {x5 : Int} {x6 : Int} {x7 : Int} {x8 : Int} {σ : mS} {R : (Int × Int × Int × Int × Int)}, rec x0 x1 x3 x4 x5 x6 x7 x8 σ = some R → ∀ {r : mX} {τ : mS}, Ev G M_X0_ofPhase 128 [(2, vi x2), (3, vi (R.1)), (4, vi (R.2.1)), (5, vi (R.2.2.1)), (6, vi (R.2.2.2.1)), (7, vi (R.2.2.2.2))] [] σ r τ → Ev G M_X0_ofPhase 19 [(0, vr x0), (1, vr x1), (2, vi x2), (3, vi x3), (4, vi x4), (5, vi x5), (6, vi x6), (7, vi x7), (8, vi x8)] [] σ r τ) (hk : Ev G M_X0_ofPhase 128 [(2, vi x2), (3, vi (R.1)), (4, vi (R.2.1)), (5, vi (R.2.2.1)), (6, vi (R.2.2.2.1)), (7, vi (R.2.2.2.2))] [] σ r τ) : Ev G M_X0_ofPhase 122 [(0, vr x0), (1, vr x1), (2, vi x2), (3, vi x3), (4, vi x4), (5, vi x5), (6, vi x6), (7, vi x7), (8, vi x8)] [] σ r τ := by
  unfold D_X0_ofPhase_122 at hD
  refine ev_iinc dX0_ofPhase_122 8 rfl (Nat.le_of_ble_eq_true rfl) rfl ?_
  refine ev_goto (tgt := 19) dX0_ofPhase_125 (by decide) ?_
  refine Ev.pick [1, 2, 3, 4, 5, 6, 7, 8, 0] rfl ?_
  exact hrec hD hk
def D_X0_ofPhase_79 (rec : Nat → Nat → Int → Int → Int → Int → Int → Int → mS → Option (Int × Int × Int × Int × Int)) (x0 : Nat) (x1 : Nat) (x4 : Int) (x5 : Int) (x6 : Int) (x7 : Int) (x8 : Int) (x9 : Int) (y0 : Int) (σ : mS) : Option (Int × Int × Int × Int × Int) :=
  (gR σ x0 0 6).bind fun v1 =>
  (lI σ v1 x9).bind fun v2 =>
  (gR σ x0 0 5).bind fun v3 =>
  (lI σ v3 x9).bind fun v4 =>
  (gR σ x0 0 6).bind fun v5 =>
  (lI σ v5 x9).bind fun v6 =>
  D_X0_ofPhase_122 rec x0 x1 y0 (if x4 < v2 then v2 else x4) (if x5 < v4 then v4 else x5) (if v6 < x6 then v6 else x6) x7 x8 σ
set_option maxRecDepth 100000 in
set_option maxHeartbeats 4000000 in
theorem lk_X0_ofPhase_79 {G : mG} {rec : Nat → Nat → Int → Int → Int → Int → Int → Int → mS → Option (Int × Int × Int × Int × Int)} {x0 : Nat} {x1 : Nat} {x2 : Int} {x4 : Int} {x5 : Int} {x6 : Int} {x7 : Int} {x8 : Int} {x9 : Int} {y0 : Int} {σ : mS} {R : (Int × Int × Int × Int × Int)} {r : mX} {τ : mS} (hD : D_X0_ofPhase_79 rec x0 x1 x4 x5 x6 x7 x8 x9 y0 σ = some R) (hrec : ∀ {x0 : Nat} {x1 : Nat} {x3 : Int} {x4 : Int} {x5 : Int} {x6 : Int} {x7 : Int} {x8 : Int} {σ : mS} {R : (Int × Int × Int × Int × Int)}, rec x0 x1 x3 x4 x5 x6 x7 x8 σ = some R → ∀ {r : mX} {τ : mS}, Ev G M_X0_ofPhase 128 [(2, vi x2), (3, vi (R.1)), (4, vi (R.2.1)), (5, vi (R.2.2.1)), (6, vi (R.2.2.2.1)), (7, vi (R.2.2.2.2))] [] σ r τ → Ev G M_X0_ofPhase 19 [(0, vr x0), (1, vr x1), (2, vi x2), (3, vi x3), (4, vi x4), (5, vi x5), (6, vi x6), (7, vi x7), (8, vi x8)] [] σ r τ) (hk : Ev G M_X0_ofPhase 128 [(2, vi x2), (3, vi (R.1)), (4, vi (R.2.1)), (5, vi (R.2.2.1)), (6, vi (R.2.2.2.1)), (7, vi (R.2.2.2.2))] [] σ r τ) : Ev G M_X0_ofPhase 79 [(0, vr x0), (1, vr x1), (2, vi x2), (4, vi x4), (5, vi x5), (6, vi x6), (7, vi x7), (8, vi x8), (9, vi x9)] [vi y0] σ r τ := by
  unfold D_X0_ofPhase_79 at hD
  refine ev_istore_n dX0_ofPhase_79 rfl (Nat.le_of_ble_eq_true rfl) rfl ?_
  refine ev_iload dX0_ofPhase_80 4 rfl ?_
  refine ev_aload_n dX0_ofPhase_82 1 rfl rfl ?_
  obtain ⟨v1, g, hD⟩ := bd hD
  refine ew_getR 0 6 dX0_ofPhase_83 rfl (Nat.le_of_ble_eq_true rfl) w_398 in_X0 rfl g ?_
  refine ev_iload dX0_ofPhase_86 9 rfl ?_
  obtain ⟨v2, g, hD⟩ := bd hD
  refine ew_iald dX0_ofPhase_88 g ?_
  refine ev_mmax dX0_ofPhase_89 w_1203 w_569 w_133 w_570 (Nat.le_of_ble_eq_true rfl) (Nat.le_of_ble_eq_true rfl) (Nat.le_of_ble_eq_true rfl) ?_
  refine ev_istore dX0_ofPhase_92 (Nat.le_of_ble_eq_true rfl) rfl ?_
  refine ev_iload dX0_ofPhase_94 5 rfl ?_
  refine ev_aload_n dX0_ofPhase_96 2 rfl rfl ?_
  obtain ⟨v3, g, hD⟩ := bd hD
  refine ew_getR 0 5 dX0_ofPhase_97 rfl (Nat.le_of_ble_eq_true rfl) w_396 in_X0 rfl g ?_
  refine ev_iload dX0_ofPhase_100 9 rfl ?_
  obtain ⟨v4, g, hD⟩ := bd hD
  refine ew_iald dX0_ofPhase_102 g ?_
  refine ev_mmax dX0_ofPhase_103 w_1203 w_569 w_133 w_570 (Nat.le_of_ble_eq_true rfl) (Nat.le_of_ble_eq_true rfl) (Nat.le_of_ble_eq_true rfl) ?_
  refine ev_istore dX0_ofPhase_106 (Nat.le_of_ble_eq_true rfl) rfl ?_
  refine ev_iload dX0_ofPhase_108 6 rfl ?_
  refine ev_aload_n dX0_ofPhase_110 3 rfl rfl ?_
  obtain ⟨v5, g, hD⟩ := bd hD
  refine ew_getR 0 6 dX0_ofPhase_111 rfl (Nat.le_of_ble_eq_true rfl) w_398 in_X0 rfl g ?_
  refine ev_iload dX0_ofPhase_114 9 rfl ?_
  obtain ⟨v6, g, hD⟩ := bd hD
  refine ew_iald dX0_ofPhase_116 g ?_
  refine ev_mmin dX0_ofPhase_117 w_1202 w_572 w_133 w_573 (Nat.le_of_ble_eq_true rfl) (Nat.le_of_ble_eq_true rfl) (Nat.le_of_ble_eq_true rfl) ?_
  refine ev_istore dX0_ofPhase_120 (Nat.le_of_ble_eq_true rfl) rfl ?_
  refine Ev.pick [4, 5, 6, 3, 2, 1, 0, 7, 8] rfl ?_
  exact lk_X0_ofPhase_122 hD hrec hk
def D_X0_ofPhase_19 : Nat → Nat → Nat → Int → Int → Int → Int → Int → Int → mS → Option (Int × Int × Int × Int × Int)
  | 0, _, _, _, _, _, _, _, _, _ => none
  | f + 1, x0, x1, x3, x4, x5, x6, x7, x8, σ =>
    (gI σ x1 1 0).bind fun v1 =>
    if v1 ≤ x8 then
      some (x3, x4, x5, x6, x7)
    else
      (gR σ x1 1 1).bind fun v2 =>
      (lI σ v2 x8).bind fun v3 =>
      (gR σ x0 0 4).bind fun v4 =>
      (lI σ v4 v3).bind fun v5 =>
      if v5 ≠ 0 then
        if x3 ≠ ((-1)) then
          (gR σ x0 0 5).bind fun v6 =>
          (lI σ v6 v3).bind fun v7 =>
          D_X0_ofPhase_79 (D_X0_ofPhase_19 f) x0 x1 x4 x5 x6 x7 x8 v3 (if v7 < x3 then v7 else x3) σ
        else
          (gR σ x0 0 5).bind fun v8 =>
          (lI σ v8 v3).bind fun v9 =>
          D_X0_ofPhase_79 (D_X0_ofPhase_19 f) x0 x1 x4 x5 x6 x7 x8 v3 v9 σ
      else
        D_X0_ofPhase_122 (D_X0_ofPhase_19 f) x0 x1 x3 x4 x5 x6 1 x8 σ
set_option maxRecDepth 100000 in
set_option maxHeartbeats 4000000 in
theorem lk_X0_ofPhase_19 {G : mG} {x2 : Int} (f : Nat) : ∀ {x0 : Nat} {x1 : Nat} {x3 : Int} {x4 : Int} {x5 : Int} {x6 : Int} {x7 : Int} {x8 : Int} {σ : mS} {R : (Int × Int × Int × Int × Int)}, D_X0_ofPhase_19 f x0 x1 x3 x4 x5 x6 x7 x8 σ = some R → ∀ {r : mX} {τ : mS}, Ev G M_X0_ofPhase 128 [(2, vi x2), (3, vi (R.1)), (4, vi (R.2.1)), (5, vi (R.2.2.1)), (6, vi (R.2.2.2.1)), (7, vi (R.2.2.2.2))] [] σ r τ → Ev G M_X0_ofPhase 19 [(0, vr x0), (1, vr x1), (2, vi x2), (3, vi x3), (4, vi x4), (5, vi x5), (6, vi x6), (7, vi x7), (8, vi x8)] [] σ r τ := by
  induction f with
  | zero =>
    intros
    rename_i hD _ _ _
    cases hD
  | succ f ih =>
    intro x0 x1 x3 x4 x5 x6 x7 x8 σ R hD r τ hk
    have hrec := @ih
    rw [D_X0_ofPhase_19] at hD
    refine ev_iload dX0_ofPhase_19 8 rfl ?_
    refine ev_aload_n dX0_ofPhase_21 1 rfl rfl ?_
    obtain ⟨v1, g, hD⟩ := bd hD
    refine ew_getI 1 0 dX0_ofPhase_22 rfl (Nat.le_of_ble_eq_true rfl) w_212 in_X1 rfl g ?_
    by_cases c : v1 ≤ x8
    · rw [if_pos c] at hD
      refine ev_icmp_ge_t (tgt := 128) dX0_ofPhase_25 (by decide) c ?_
      cases hD
      refine Ev.pick [2, 3, 4, 5, 6, 7] rfl ?_
      exact hk
    · rw [if_neg c] at hD
      refine ev_icmp_ge_f 128 dX0_ofPhase_25 (by decide) c ?_
      refine ev_aload_n dX0_ofPhase_28 1 rfl rfl ?_
      obtain ⟨v2, g, hD⟩ := bd hD
      refine ew_getR 1 1 dX0_ofPhase_29 rfl (Nat.le_of_ble_eq_true rfl) w_217 in_X1 rfl g ?_
      refine ev_iload dX0_ofPhase_32 8 rfl ?_
      obtain ⟨v3, g, hD⟩ := bd hD
      refine ew_iald dX0_ofPhase_34 g ?_
      refine ev_istore dX0_ofPhase_35 (Nat.le_of_ble_eq_true rfl) rfl ?_
      refine ev_aload_n dX0_ofPhase_37 1 rfl rfl ?_
      obtain ⟨v4, g, hD⟩ := bd hD
      refine ew_getR 0 4 dX0_ofPhase_38 rfl (Nat.le_of_ble_eq_true rfl) w_394 in_X0 rfl g ?_
      refine ev_iload dX0_ofPhase_41 0 rfl ?_
      obtain ⟨v5, g, hD⟩ := bd hD
      refine ew_iald dX0_ofPhase_43 g ?_
      by_cases c : v5 ≠ 0
      · rw [if_pos c] at hD
        refine ev_if_ne_t (tgt := 53) dX0_ofPhase_44 (by decide) c ?_
        refine ev_iload_n dX0_ofPhase_53 4 rfl rfl ?_
        refine ev_iconst dX0_ofPhase_54 (mi_c rfl) ?_
        by_cases c : x3 ≠ ((-1))
        · rw [if_pos c] at hD
          refine ev_icmp_ne_t (tgt := 68) dX0_ofPhase_55 (by decide) c ?_
          refine ev_iload_n dX0_ofPhase_68 4 rfl rfl ?_
          refine ev_aload_n dX0_ofPhase_69 1 rfl rfl ?_
          obtain ⟨v6, g, hD⟩ := bd hD
          refine ew_getR 0 5 dX0_ofPhase_70 rfl (Nat.le_of_ble_eq_true rfl) w_396 in_X0 rfl g ?_
          refine ev_iload dX0_ofPhase_73 0 rfl ?_
          obtain ⟨v7, g, hD⟩ := bd hD
          refine ew_iald dX0_ofPhase_75 g ?_
          refine ev_mmin dX0_ofPhase_76 w_1202 w_572 w_133 w_573 (Nat.le_of_ble_eq_true rfl) (Nat.le_of_ble_eq_true rfl) (Nat.le_of_ble_eq_true rfl) ?_
          refine Ev.pick [1, 2, 3, 5, 6, 7, 8, 9, 0] rfl ?_
          exact lk_X0_ofPhase_79 hD hrec hk
        · rw [if_neg c] at hD
          refine ev_icmp_ne_f 68 dX0_ofPhase_55 (by decide) c ?_
          refine ev_aload_n dX0_ofPhase_58 1 rfl rfl ?_
          obtain ⟨v8, g, hD⟩ := bd hD
          refine ew_getR 0 5 dX0_ofPhase_59 rfl (Nat.le_of_ble_eq_true rfl) w_396 in_X0 rfl g ?_
          refine ev_iload dX0_ofPhase_62 0 rfl ?_
          obtain ⟨v9, g, hD⟩ := bd hD
          refine ew_iald dX0_ofPhase_64 g ?_
          refine ev_goto (tgt := 79) dX0_ofPhase_65 (by decide) ?_
          refine Ev.pick [1, 2, 3, 5, 6, 7, 8, 9, 0] rfl ?_
          exact lk_X0_ofPhase_79 hD hrec hk
      · rw [if_neg c] at hD
        refine ev_if_ne_f 53 dX0_ofPhase_44 (by decide) c ?_
        refine ev_iconst dX0_ofPhase_47 (mi_c rfl) ?_
        refine ev_istore dX0_ofPhase_48 (Nat.le_of_ble_eq_true rfl) rfl ?_
        refine ev_goto (tgt := 122) dX0_ofPhase_50 (by decide) ?_
        refine Ev.pick [2, 3, 4, 5, 6, 7, 8, 0, 9] rfl ?_
        exact lk_X0_ofPhase_122 hD hrec hk
def D_X0_ofPhase_173 (y0 : Int) (σ : mS) : Option Int :=
  some y0
set_option maxRecDepth 100000 in
set_option maxHeartbeats 4000000 in
theorem lk_X0_ofPhase_173 {G : mG} {y0 : Int} {σ : mS} {R : Int} (hD : D_X0_ofPhase_173 y0 σ = some R) : Ev G M_X0_ofPhase 173 [] [vi y0] σ (.inl (some (vi R))) σ := by
  unfold D_X0_ofPhase_173 at hD
  cases hD
  exact ev_ret (some (vi _)) dX0_ofPhase_173 True.intro
def D_X0_ofPhase_144 (y0 : Int) (σ : mS) : Option Int :=
  some y0
set_option maxRecDepth 100000 in
set_option maxHeartbeats 4000000 in
theorem lk_X0_ofPhase_144 {G : mG} {y0 : Int} {σ : mS} {R : Int} (hD : D_X0_ofPhase_144 y0 σ = some R) : Ev G M_X0_ofPhase 144 [] [vi y0] σ (.inl (some (vi R))) σ := by
  unfold D_X0_ofPhase_144 at hD
  cases hD
  exact ev_ret (some (vi _)) dX0_ofPhase_144 True.intro
def D_X0_ofPhase (x0 : Nat) (x1 : Nat) (x2 : Int) (σ : mS) : Option Int :=
  (D_X0_ofPhase_19 mFU x0 x1 ((-1)) ((-1)) 0 999 0 0 σ).bind fun r1 =>
  if 2 < x2 then
    if r1.2.2.2.2 = 0 then
      if x2 ≠ 3 then
        D_X0_ofPhase_173 (mw (r1.2.1 - r1.1)) σ
      else
        D_X0_ofPhase_173 (if 0 < (mw (r1.2.2.1 - r1.2.2.2.1)) then (mw (r1.2.2.1 - r1.2.2.2.1)) else 0) σ
    else
      some ((-1))
  else
    if x2 ≠ 1 then
      D_X0_ofPhase_144 r1.2.1 σ
    else
      D_X0_ofPhase_144 r1.1 σ
set_option maxRecDepth 100000 in
set_option maxHeartbeats 4000000 in
theorem lk_X0_ofPhase {G : mG} {x0 : Nat} {x1 : Nat} {x2 : Int} {σ : mS} {R : Int} (hD : D_X0_ofPhase x0 x1 x2 σ = some R) : Ev G M_X0_ofPhase 0 [(0, vr x0), (1, vr x1), (2, vi x2)] [] σ (.inl (some (vi R))) σ := by
  unfold D_X0_ofPhase at hD
  refine ev_iconst dX0_ofPhase_0 (mi_c rfl) ?_
  refine ev_istore_n dX0_ofPhase_1 rfl (Nat.le_of_ble_eq_true rfl) rfl ?_
  refine ev_iconst dX0_ofPhase_2 (mi_c rfl) ?_
  refine ev_istore dX0_ofPhase_3 (Nat.le_of_ble_eq_true rfl) rfl ?_
  refine ev_iconst dX0_ofPhase_5 (mi_c rfl) ?_
  refine ev_istore dX0_ofPhase_6 (Nat.le_of_ble_eq_true rfl) rfl ?_
  refine ev_sp dX0_ofPhase_8 rfl ?_
  refine ev_istore dX0_ofPhase_11 (Nat.le_of_ble_eq_true rfl) rfl ?_
  refine ev_iconst dX0_ofPhase_13 (mi_c rfl) ?_
  refine ev_istore dX0_ofPhase_14 (Nat.le_of_ble_eq_true rfl) rfl ?_
  refine ev_iconst dX0_ofPhase_16 (mi_c rfl) ?_
  refine ev_istore dX0_ofPhase_17 (Nat.le_of_ble_eq_true rfl) rfl ?_
  obtain ⟨r1, g, hD⟩ := bd hD
  refine Ev.pick [6, 7, 8, 5, 4, 3, 2, 1, 0] rfl ?_
  refine lk_X0_ofPhase_19 mFU g ?_
  refine ev_iload_n dX0_ofPhase_128 0 rfl rfl ?_
  refine ev_iconst dX0_ofPhase_129 (mi_c rfl) ?_
  by_cases c : 2 < x2
  · rw [if_pos c] at hD
    refine ev_icmp_gt_t (tgt := 145) dX0_ofPhase_130 (by decide) c ?_
    refine ev_iload dX0_ofPhase_145 5 rfl ?_
    by_cases c : r1.2.2.2.2 = 0
    · rw [if_pos c] at hD
      refine ev_if_eq_t (tgt := 152) dX0_ofPhase_147 (by decide) c ?_
      refine ev_iload_n dX0_ofPhase_152 0 rfl rfl ?_
      refine ev_iconst dX0_ofPhase_153 (mi_c rfl) ?_
      by_cases c : x2 ≠ 3
      · rw [if_pos c] at hD
        refine ev_icmp_ne_t (tgt := 169) dX0_ofPhase_154 (by decide) c ?_
        refine ev_iload dX0_ofPhase_169 2 rfl ?_
        refine ev_iload_n dX0_ofPhase_171 1 rfl rfl ?_
        refine ev_isub dX0_ofPhase_172 ?_
        refine Ev.pick [] rfl ?_
        exact lk_X0_ofPhase_173 hD
      · rw [if_neg c] at hD
        refine ev_icmp_ne_f 169 dX0_ofPhase_154 (by decide) c ?_
        refine ev_iconst dX0_ofPhase_157 (mi_c rfl) ?_
        refine ev_iload dX0_ofPhase_158 3 rfl ?_
        refine ev_iload dX0_ofPhase_160 4 rfl ?_
        refine ev_isub dX0_ofPhase_162 ?_
        refine ev_mmax dX0_ofPhase_163 w_1203 w_569 w_133 w_570 (Nat.le_of_ble_eq_true rfl) (Nat.le_of_ble_eq_true rfl) (Nat.le_of_ble_eq_true rfl) ?_
        refine ev_goto (tgt := 173) dX0_ofPhase_166 (by decide) ?_
        refine Ev.pick [] rfl ?_
        exact lk_X0_ofPhase_173 hD
    · rw [if_neg c] at hD
      refine ev_if_eq_f 152 dX0_ofPhase_147 (by decide) c ?_
      refine ev_iconst dX0_ofPhase_150 (mi_c rfl) ?_
      cases hD
      exact ev_ret (some (vi _)) dX0_ofPhase_151 True.intro
  · rw [if_neg c] at hD
    refine ev_icmp_gt_f 145 dX0_ofPhase_130 (by decide) c ?_
    refine ev_iload_n dX0_ofPhase_133 0 rfl rfl ?_
    refine ev_iconst dX0_ofPhase_134 (mi_c rfl) ?_
    by_cases c : x2 ≠ 1
    · rw [if_pos c] at hD
      refine ev_icmp_ne_t (tgt := 142) dX0_ofPhase_135 (by decide) c ?_
      refine ev_iload dX0_ofPhase_142 2 rfl ?_
      refine Ev.pick [] rfl ?_
      exact lk_X0_ofPhase_144 hD
    · rw [if_neg c] at hD
      refine ev_icmp_ne_f 142 dX0_ofPhase_135 (by decide) c ?_
      refine ev_iload_n dX0_ofPhase_138 1 rfl rfl ?_
      refine ev_goto (tgt := 144) dX0_ofPhase_139 (by decide) ?_
      refine Ev.pick [] rfl ?_
      exact lk_X0_ofPhase_144 hD
theorem ct_X0_ofPhase {G : mG} {x0 : Nat} {x1 : Nat} {x2 : Int} {σ : mS} {R : Int} (hD : D_X0_ofPhase x0 x1 x2 σ = some R) : Ct G M_X0_ofPhase [vr x0, vr x1, vi x2] σ (.inl (some (vi R))) σ := ct_of rfl (by decide +kernel) rfl (Nat.le_of_ble_eq_true rfl) rfl (lk_X0_ofPhase hD)
