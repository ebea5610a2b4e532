def D_X9_text_27 : Nat → Nat → Int → Int → mS → Option mS
  | 0, _, _, _, _ => none
  | f + 1, x0, x1, x2, σ =>
    if x1 ≤ x2 then
      some σ
    else
      (gR σ x0 8 30).bind fun v1 =>
      (gR σ x0 8 29).bind fun v2 =>
      (lB σ v2 x2).bind fun v3 =>
      (sB σ v1 x2 v3).bind fun s4 =>
      (D_X9_text_27 f) x0 x1 (mw (x2 + 1)) s4
set_option maxRecDepth 100000 in
set_option maxHeartbeats 4000000 in
theorem lk_X9_text_27 {G : mG} (f : Nat) : ∀ {x0 : Nat} {x1 : Int} {x2 : Int} {σ : mS} {R : mS}, D_X9_text_27 f x0 x1 x2 σ = some R → ∀ {r : mX} {τ : mS}, Ev G M_X9_text 50 [(0, vr x0), (1, vi x1)] [] R r τ → Ev G M_X9_text 27 [(0, vr x0), (1, vi x1), (2, vi x2)] [] σ r τ := by
  induction f with
  | zero =>
    intros
    rename_i hD _ _ _
    cases hD
  | succ f ih =>
    intro x0 x1 x2 σ R hD r τ hk
    have hrec := @ih
    rw [D_X9_text_27] at hD
    refine ev_iload_n dX9_text_27 2 rfl rfl ?_
    refine ev_iload_n dX9_text_28 1 rfl rfl ?_
    by_cases c : x1 ≤ x2
    · rw [if_pos c] at hD
      refine ev_icmp_ge_t (tgt := 50) dX9_text_29 (by decide) c ?_
      cases hD
      refine Ev.pick [0, 1] rfl ?_
      exact hk
    · rw [if_neg c] at hD
      refine ev_icmp_ge_f 50 dX9_text_29 (by decide) c ?_
      refine ev_aload_n dX9_text_32 0 rfl rfl ?_
      obtain ⟨v1, g, hD⟩ := bd hD
      refine ew_getR 8 30 dX9_text_33 rfl (Nat.le_of_ble_eq_true rfl) w_1295 in_X9 rfl g ?_
      refine ev_iload_n dX9_text_36 2 rfl rfl ?_
      refine ev_aload_n dX9_text_37 0 rfl rfl ?_
      obtain ⟨v2, g, hD⟩ := bd hD
      refine ew_getR 8 29 dX9_text_38 rfl (Nat.le_of_ble_eq_true rfl) w_1294 in_X9 rfl g ?_
      refine ev_iload_n dX9_text_41 2 rfl rfl ?_
      obtain ⟨v3, g, hD⟩ := bd hD
      refine ew_bald dX9_text_42 g ?_
      obtain ⟨s4, g, hD⟩ := bd hD
      refine ew_bast dX9_text_43 g ?_
      refine ev_iinc dX9_text_44 2 rfl (Nat.le_of_ble_eq_true rfl) rfl ?_
      refine ev_goto (tgt := 27) dX9_text_47 (by decide) ?_
      refine Ev.pick [1, 2, 0] rfl ?_
      exact hrec hD hk
def D_X9_text_87 : Nat → Nat → Int → mS → Option mS
  | 0, _, _, _ => none
  | f + 1, x0, x2, σ =>
    if 303 ≤ x2 then
      some σ
    else
      (gR σ x0 8 3).bind fun v1 =>
      (sI σ v1 x2 0).bind fun s2 =>
      (D_X9_text_87 f) x0 (mw (x2 + 1)) s2
set_option maxRecDepth 100000 in
set_option maxHeartbeats 4000000 in
theorem lk_X9_text_87 {G : mG} (f : Nat) : ∀ {x0 : Nat} {x2 : Int} {σ : mS} {R : mS}, D_X9_text_87 f x0 x2 σ = some R → ∀ {r : mX} {τ : mS}, Ev G M_X9_text 107 [(0, vr x0)] [] R r τ → Ev G M_X9_text 87 [(0, vr x0), (2, vi x2)] [] σ r τ := by
  induction f with
  | zero =>
    intros
    rename_i hD _ _ _
    cases hD
  | succ f ih =>
    intro x0 x2 σ R hD r τ hk
    have hrec := @ih
    rw [D_X9_text_87] at hD
    refine ev_iload_n dX9_text_87 1 rfl rfl ?_
    refine ev_sp dX9_text_88 rfl ?_
    by_cases c : 303 ≤ x2
    · rw [if_pos c] at hD
      refine ev_icmp_ge_t (tgt := 107) dX9_text_91 (by decide) c ?_
      cases hD
      refine Ev.pick [0] rfl ?_
      exact hk
    · rw [if_neg c] at hD
      refine ev_icmp_ge_f 107 dX9_text_91 (by decide) c ?_
      refine ev_aload_n dX9_text_94 0 rfl rfl ?_
      obtain ⟨v1, g, hD⟩ := bd hD
      refine ew_getR 8 3 dX9_text_95 rfl (Nat.le_of_ble_eq_true rfl) w_1268 in_X9 rfl g ?_
      refine ev_iload_n dX9_text_98 1 rfl rfl ?_
      refine ev_iconst dX9_text_99 (mi_c rfl) ?_
      obtain ⟨s2, g, hD⟩ := bd hD
      refine ew_iast dX9_text_100 g ?_
      refine ev_iinc dX9_text_101 1 rfl (Nat.le_of_ble_eq_true rfl) rfl ?_
      refine ev_goto (tgt := 87) dX9_text_104 (by decide) ?_
      refine Ev.pick [1, 0] rfl ?_
      exact hrec hD hk
def D_X9_text_143 (rec : Nat → mS → Option mS) (x0 : Nat) (σ : mS) : Option mS :=
  (tgO σ x0 8).bind fun _ =>
  (D_X9_oneLine x0 σ).bind fun r1 =>
  rec x0 r1
set_option maxRecDepth 100000 in
set_option maxHeartbeats 4000000 in
theorem lk_X9_text_143 {G : mG} {rec : Nat → mS → Option mS} {x0 : Nat} {σ : mS} {R : mS} {r : mX} {τ : mS} (hD : D_X9_text_143 rec x0 σ = some R) (hrec : ∀ {x0 : Nat} {σ : mS} {R : mS}, rec x0 σ = some R → ∀ {r : mX} {τ : mS}, Ev G M_X9_text 150 [(0, vr x0)] [] R r τ → Ev G M_X9_text 118 [(0, vr x0)] [] σ r τ) (hk : Ev G M_X9_text 150 [(0, vr x0)] [] R r τ) : Ev G M_X9_text 143 [(0, vr x0)] [] σ r τ := by
  unfold D_X9_text_143 at hD
  refine ev_aload_n dX9_text_143 0 rfl rfl ?_
  obtain ⟨_, g0, hD⟩ := bd hD
  obtain ⟨r1, g, hD⟩ := bd hD
  refine ew_callV0 (as := []) (a := x0) (rest := []) dX9_text_144 v_X9_oneLine w_1445 rfl (Nat.le_of_ble_eq_true rfl) rfl rfl g0 (Nat.le_of_ble_eq_true rfl) (Nat.le_of_ble_eq_true rfl) (ct_X9_oneLine g) ?_
  refine ev_goto (tgt := 118) dX9_text_147 (by decide) ?_
  exact hrec hD hk
def D_X9_text_118 : Nat → Nat → mS → Option mS
  | 0, _, _ => none
  | f + 1, x0, σ =>
    (gI σ x0 8 42).bind fun v1 =>
    if v1 ≠ 0 then
      some σ
    else
      (tgO σ x0 8).bind fun _ =>
      (D_X9_sign x0 σ).bind fun r2 =>
      if r2.1 ≠ 0 then
        D_X9_text_143 (D_X9_text_118 f) x0 r2.2
      else
        (gI r2.2 x0 8 39).bind fun v3 =>
        (gI r2.2 x0 8 38).bind fun v4 =>
        if v4 ≤ v3 then
          some r2.2
        else
          D_X9_text_143 (D_X9_text_118 f) x0 r2.2
set_option maxRecDepth 100000 in
set_option maxHeartbeats 4000000 in
theorem lk_X9_text_118 {G : mG} (f : Nat) : ∀ {x0 : Nat} {σ : mS} {R : mS}, D_X9_text_118 f x0 σ = some R → ∀ {r : mX} {τ : mS}, Ev G M_X9_text 150 [(0, vr x0)] [] R r τ → Ev G M_X9_text 118 [(0, vr x0)] [] σ r τ := by
  induction f with
  | zero =>
    intros
    rename_i hD _ _ _
    cases hD
  | succ f ih =>
    intro x0 σ R hD r τ hk
    have hrec := @ih
    rw [D_X9_text_118] at hD
    refine ev_aload_n dX9_text_118 0 rfl rfl ?_
    obtain ⟨v1, g, hD⟩ := bd hD
    refine ew_getI 8 42 dX9_text_119 rfl (Nat.le_of_ble_eq_true rfl) w_1307 in_X9 rfl g ?_
    by_cases c : v1 ≠ 0
    · rw [if_pos c] at hD
      refine ev_if_ne_t (tgt := 150) dX9_text_122 (by decide) c ?_
      cases hD
      exact hk
    · rw [if_neg c] at hD
      refine ev_if_ne_f 150 dX9_text_122 (by decide) c ?_
      refine ev_aload_n dX9_text_125 0 rfl rfl ?_
      obtain ⟨_, g0, hD⟩ := bd hD
      obtain ⟨r2, g, hD⟩ := bd hD
      refine ew_callVv (as := []) (a := x0) (rest := []) dX9_text_126 v_X9_sign w_1458 rfl (Nat.le_of_ble_eq_true rfl) rfl rfl g0 (Nat.le_of_ble_eq_true rfl) (Nat.le_of_ble_eq_true rfl) (ct_X9_sign g) ?_
      by_cases c : r2.1 ≠ 0
      · rw [if_pos c] at hD
        refine ev_if_ne_t (tgt := 143) dX9_text_129 (by decide) c ?_
        exact lk_X9_text_143 hD hrec hk
      · rw [if_neg c] at hD
        refine ev_if_ne_f 143 dX9_text_129 (by decide) c ?_
        refine ev_aload_n dX9_text_132 0 rfl rfl ?_
        obtain ⟨v3, g, hD⟩ := bd hD
        refine ew_getI 8 39 dX9_text_133 rfl (Nat.le_of_ble_eq_true rfl) w_1304 in_X9 rfl g ?_
        refine ev_aload_n dX9_text_136 0 rfl rfl ?_
        obtain ⟨v4, g, hD⟩ := bd hD
        refine ew_getI 8 38 dX9_text_137 rfl (Nat.le_of_ble_eq_true rfl) w_1303 in_X9 rfl g ?_
        by_cases c : v4 ≤ v3
        · rw [if_pos c] at hD
          refine ev_icmp_ge_t (tgt := 150) dX9_text_140 (by decide) c ?_
          cases hD
          exact hk
        · rw [if_neg c] at hD
          refine ev_icmp_ge_f 150 dX9_text_140 (by decide) c ?_
          exact lk_X9_text_143 hD hrec hk
def D_X9_text_186 : Nat → Nat → Int → mS → Option mS
  | 0, _, _, _ => none
  | f + 1, x0, x2, σ =>
    if 303 ≤ x2 then
      some σ
    else
      (gR σ x0 8 2).bind fun v1 =>
      (gR σ x0 8 3).bind fun v2 =>
      (lI σ v2 x2).bind fun v3 =>
      (sI σ v1 x2 v3).bind fun s4 =>
      (D_X9_text_186 f) x0 (mw (x2 + 1)) s4
set_option maxRecDepth 100000 in
set_option maxHeartbeats 4000000 in
theorem lk_X9_text_186 {G : mG} (f : Nat) : ∀ {x0 : Nat} {x2 : Int} {σ : mS} {R : mS}, D_X9_text_186 f x0 x2 σ = some R → ∀ {r : mX} {τ : mS}, Ev G M_X9_text 211 [(0, vr x0)] [] R r τ → Ev G M_X9_text 186 [(0, vr x0), (2, vi x2)] [] σ r τ := by
  induction f with
  | zero =>
    intros
    rename_i hD _ _ _
    cases hD
  | succ f ih =>
    intro x0 x2 σ R hD r τ hk
    have hrec := @ih
    rw [D_X9_text_186] at hD
    refine ev_iload_n dX9_text_186 1 rfl rfl ?_
    refine ev_sp dX9_text_187 rfl ?_
    by_cases c : 303 ≤ x2
    · rw [if_pos c] at hD
      refine ev_icmp_ge_t (tgt := 211) dX9_text_190 (by decide) c ?_
      cases hD
      refine Ev.pick [0] rfl ?_
      exact hk
    · rw [if_neg c] at hD
      refine ev_icmp_ge_f 211 dX9_text_190 (by decide) c ?_
      refine ev_aload_n dX9_text_193 0 rfl rfl ?_
      obtain ⟨v1, g, hD⟩ := bd hD
      refine ew_getR 8 2 dX9_text_194 rfl (Nat.le_of_ble_eq_true rfl) w_1267 in_X9 rfl g ?_
      refine ev_iload_n dX9_text_197 1 rfl rfl ?_
      refine ev_aload_n dX9_text_198 0 rfl rfl ?_
      obtain ⟨v2, g, hD⟩ := bd hD
      refine ew_getR 8 3 dX9_text_199 rfl (Nat.le_of_ble_eq_true rfl) w_1268 in_X9 rfl g ?_
      refine ev_iload_n dX9_text_202 1 rfl rfl ?_
      obtain ⟨v3, g, hD⟩ := bd hD
      refine ew_iald dX9_text_203 g ?_
      obtain ⟨s4, g, hD⟩ := bd hD
      refine ew_iast dX9_text_204 g ?_
      refine ev_iinc dX9_text_205 1 rfl (Nat.le_of_ble_eq_true rfl) rfl ?_
      refine ev_goto (tgt := 186) dX9_text_208 (by decide) ?_
      refine Ev.pick [1, 0] rfl ?_
      exact hrec hD hk
def D_X9_text_166 (x0 : Nat) (y0 : Int) (y1 : Nat) (σ : mS) : Option (Int × mS) :=
  (pI σ y1 8 44 y0).bind fun s1 =>
  (gI s1 x0 8 42).bind fun v2 =>
  if v2 ≤ 0 then
    (D_X9_text_186 mFU x0 0 s1).bind fun r3 =>
    (tgO r3 x0 8).bind fun _ =>
    (D_X9_takesOver x0 r3).bind fun r4 =>
    (gI r4 x0 8 6).bind fun v5 =>
    some (v5, r4)
  else
    (gI s1 x0 8 42).bind fun v6 =>
    some ((mw (v6 - 10)), s1)
set_option maxRecDepth 100000 in
set_option maxHeartbeats 4000000 in
theorem lk_X9_text_166 {G : mG} {x0 : Nat} {y0 : Int} {y1 : Nat} {σ : mS} {R : (Int × mS)} (hD : D_X9_text_166 x0 y0 y1 σ = some R) : Ev G M_X9_text 166 [(0, vr x0)] [vi y0, vr y1] σ (.inl (some (vi R.1))) R.2 := by
  unfold D_X9_text_166 at hD
  obtain ⟨s1, g, hD⟩ := bd hD
  refine ew_putI 8 44 dX9_text_166 rfl (Nat.le_of_ble_eq_true rfl) w_1309 in_X9 tyX9_ok nmX9 (Or.inl rfl) rfl g ?_
  refine ev_aload_n dX9_text_169 0 rfl rfl ?_
  obtain ⟨v2, g, hD⟩ := bd hD
  refine ew_getI 8 42 dX9_text_170 rfl (Nat.le_of_ble_eq_true rfl) w_1307 in_X9 rfl g ?_
  by_cases c : v2 ≤ 0
  · rw [if_pos c] at hD
    refine ev_if_le_t (tgt := 184) dX9_text_173 (by decide) c ?_
    refine ev_iconst dX9_text_184 (mi_c rfl) ?_
    refine ev_istore_n dX9_text_185 rfl (Nat.le_of_ble_eq_true rfl) rfl ?_
    obtain ⟨r3, g, hD⟩ := bd hD
    refine Ev.pick [1, 0] rfl ?_
    refine lk_X9_text_186 mFU g ?_
    refine ev_aload_n dX9_text_211 0 rfl rfl ?_
    obtain ⟨_, g0, hD⟩ := bd hD
    obtain ⟨r4, g, hD⟩ := bd hD
    refine ew_callV0 (as := []) (a := x0) (rest := []) dX9_text_212 v_X9_takesOver w_1573 rfl (Nat.le_of_ble_eq_true rfl) rfl rfl g0 (Nat.le_of_ble_eq_true rfl) (Nat.le_of_ble_eq_true rfl) (ct_X9_takesOver g) ?_
    refine ev_aload_n dX9_text_215 0 rfl rfl ?_
    obtain ⟨v5, g, hD⟩ := bd hD
    refine ew_getI 8 6 dX9_text_216 rfl (Nat.le_of_ble_eq_true rfl) w_1271 in_X9 rfl g ?_
    cases hD
    exact ev_ret (some (vi _)) dX9_text_219 True.intro
  · rw [if_neg c] at hD
    refine ev_if_le_f 184 dX9_text_173 (by decide) c ?_
    refine ev_aload_n dX9_text_176 0 rfl rfl ?_
    obtain ⟨v6, g, hD⟩ := bd hD
    refine ew_getI 8 42 dX9_text_177 rfl (Nat.le_of_ble_eq_true rfl) w_1307 in_X9 rfl g ?_
    refine ev_bp dX9_text_180 rfl ?_
    refine ev_isub dX9_text_182 ?_
    cases hD
    exact ev_ret (some (vi _)) dX9_text_183 True.intro
def D_X9_text_150 (x0 : Nat) (σ : mS) : Option (Int × mS) :=
  (gI σ x0 8 42).bind fun v1 =>
  if v1 ≤ 0 then
    D_X9_text_166 x0 ((-1)) x0 σ
  else
    (gI σ x0 8 43).bind fun v2 =>
    D_X9_text_166 x0 v2 x0 σ
set_option maxRecDepth 100000 in
set_option maxHeartbeats 4000000 in
theorem lk_X9_text_150 {G : mG} {x0 : Nat} {σ : mS} {R : (Int × mS)} (hD : D_X9_text_150 x0 σ = some R) : Ev G M_X9_text 150 [(0, vr x0)] [] σ (.inl (some (vi R.1))) R.2 := by
  unfold D_X9_text_150 at hD
  refine ev_aload_n dX9_text_150 0 rfl rfl ?_
  refine ev_aload_n dX9_text_151 0 rfl rfl ?_
  obtain ⟨v1, g, hD⟩ := bd hD
  refine ew_getI 8 42 dX9_text_152 rfl (Nat.le_of_ble_eq_true rfl) w_1307 in_X9 rfl g ?_
  by_cases c : v1 ≤ 0
  · rw [if_pos c] at hD
    refine ev_if_le_t (tgt := 165) dX9_text_155 (by decide) c ?_
    refine ev_iconst dX9_text_165 (mi_c rfl) ?_
    exact lk_X9_text_166 hD
  · rw [if_neg c] at hD
    refine ev_if_le_f 165 dX9_text_155 (by decide) c ?_
    refine ev_aload_n dX9_text_158 0 rfl rfl ?_
    obtain ⟨v2, g, hD⟩ := bd hD
    refine ew_getI 8 43 dX9_text_159 rfl (Nat.le_of_ble_eq_true rfl) w_1308 in_X9 rfl g ?_
    refine ev_goto (tgt := 166) dX9_text_162 (by decide) ?_
    exact lk_X9_text_166 hD
def D_X9_text (x0 : Nat) (x1 : Int) (σ : mS) : Option (Int × mS) :=
  (pI σ x0 8 0 0).bind fun s1 =>
  (gI s1 x0 8 37).bind fun v2 =>
  (D_X9_within x1 0 v2 s1).bind fun r3 =>
  (tgO s1 x0 8).bind fun _ =>
  (D_X9_isFine x0 r3 1 1 s1).bind fun r4 =>
  if r4.1 ≠ 0 then
    (D_X9_text_27 mFU x0 x1 0 r4.2).bind fun r5 =>
    (pI r5 x0 8 37 0).bind fun s6 =>
    (pI s6 x0 8 38 x1).bind fun s7 =>
    (pI s7 x0 8 39 0).bind fun s8 =>
    (pI s8 x0 8 42 0).bind fun s9 =>
    (pI s9 x0 8 49 0).bind fun s10 =>
    (pI s10 x0 8 45 0).bind fun s11 =>
    (pI s11 x0 8 46 0).bind fun s12 =>
    (D_X9_text_87 mFU x0 0 s12).bind fun r13 =>
    (gR r13 x0 8 3).bind fun v14 =>
    (sI r13 v14 0 1).bind fun s15 =>
    (tgO s15 x0 8).bind fun _ =>
    (D_X9_oneLine x0 s15).bind fun r16 =>
    (D_X9_text_118 mFU x0 r16).bind fun r17 =>
    D_X9_text_150 x0 r17
  else
    some (0, r4.2)
set_option maxRecDepth 100000 in
set_option maxHeartbeats 4000000 in
theorem lk_X9_text {G : mG} {x0 : Nat} {x1 : Int} {σ : mS} {R : (Int × mS)} (hD : D_X9_text x0 x1 σ = some R) : Ev G M_X9_text 0 [(0, vr x0), (1, vi x1)] [] σ (.inl (some (vi R.1))) R.2 := by
  unfold D_X9_text at hD
  refine ev_aload_n dX9_text_0 0 rfl rfl ?_
  refine ev_iconst dX9_text_1 (mi_c rfl) ?_
  obtain ⟨s1, g, hD⟩ := bd hD
  refine ew_putI 8 0 dX9_text_2 rfl (Nat.le_of_ble_eq_true rfl) w_1265 in_X9 tyX9_ok nmX9 (Or.inl rfl) rfl g ?_
  refine ev_aload_n dX9_text_5 0 rfl rfl ?_
  refine ev_iload_n dX9_text_6 1 rfl rfl ?_
  refine ev_iconst dX9_text_7 (mi_c rfl) ?_
  refine ev_aload_n dX9_text_8 0 rfl rfl ?_
  obtain ⟨v2, g, hD⟩ := bd hD
  refine ew_getI 8 37 dX9_text_9 rfl (Nat.le_of_ble_eq_true rfl) w_1302 in_X9 rfl g ?_
  obtain ⟨r3, g, hD⟩ := bd hD
  refine ew_callSv (as := [vi x1, vi 0, vi v2]) (rest := [vr x0]) dX9_text_12 v_X9_within w_1438 rfl (Nat.le_of_ble_eq_true rfl) (Nat.le_of_ble_eq_true rfl) (Nat.le_of_ble_eq_true rfl) (ct_X9_within g) ?_
  refine ev_iconst dX9_text_15 (mi_c rfl) ?_
  refine ev_iconst dX9_text_16 (mi_c rfl) ?_
  obtain ⟨_, g0, hD⟩ := bd hD
  obtain ⟨r4, g, hD⟩ := bd hD
  refine ew_callVv (as := [vi r3, vi 1, vi 1]) (a := x0) (rest := []) dX9_text_17 v_X9_isFine w_1441 rfl (Nat.le_of_ble_eq_true rfl) rfl rfl g0 (Nat.le_of_ble_eq_true rfl) (Nat.le_of_ble_eq_true rfl) (ct_X9_isFine g) ?_
  by_cases c : r4.1 ≠ 0
  · rw [if_pos c] at hD
    refine ev_if_ne_t (tgt := 25) dX9_text_20 (by decide) c ?_
    refine ev_iconst dX9_text_25 (mi_c rfl) ?_
    refine ev_istore_n dX9_text_26 rfl (Nat.le_of_ble_eq_true rfl) rfl ?_
    obtain ⟨r5, g, hD⟩ := bd hD
    refine Ev.pick [1, 2, 0] rfl ?_
    refine lk_X9_text_27 mFU g ?_
    refine ev_aload_n dX9_text_50 0 rfl rfl ?_
    refine ev_iconst dX9_text_51 (mi_c rfl) ?_
    obtain ⟨s6, g, hD⟩ := bd hD
    refine ew_putI 8 37 dX9_text_52 rfl (Nat.le_of_ble_eq_true rfl) w_1302 in_X9 tyX9_ok nmX9 (Or.inl rfl) rfl g ?_
    refine ev_aload_n dX9_text_55 0 rfl rfl ?_
    refine ev_iload_n dX9_text_56 1 rfl rfl ?_
    obtain ⟨s7, g, hD⟩ := bd hD
    refine ew_putI 8 38 dX9_text_57 rfl (Nat.le_of_ble_eq_true rfl) w_1303 in_X9 tyX9_ok nmX9 (Or.inl rfl) rfl g ?_
    refine ev_aload_n dX9_text_60 0 rfl rfl ?_
    refine ev_iconst dX9_text_61 (mi_c rfl) ?_
    obtain ⟨s8, g, hD⟩ := bd hD
    refine ew_putI 8 39 dX9_text_62 rfl (Nat.le_of_ble_eq_true rfl) w_1304 in_X9 tyX9_ok nmX9 (Or.inl rfl) rfl g ?_
    refine ev_aload_n dX9_text_65 0 rfl rfl ?_
    refine ev_iconst dX9_text_66 (mi_c rfl) ?_
    obtain ⟨s9, g, hD⟩ := bd hD
    refine ew_putI 8 42 dX9_text_67 rfl (Nat.le_of_ble_eq_true rfl) w_1307 in_X9 tyX9_ok nmX9 (Or.inl rfl) rfl g ?_
    refine ev_aload_n dX9_text_70 0 rfl rfl ?_
    refine ev_iconst dX9_text_71 (mi_c rfl) ?_
    obtain ⟨s10, g, hD⟩ := bd hD
    refine ew_putI 8 49 dX9_text_72 rfl (Nat.le_of_ble_eq_true rfl) w_1314 in_X9 tyX9_ok nmX9 (Or.inl rfl) rfl g ?_
    refine ev_aload_n dX9_text_75 0 rfl rfl ?_
    refine ev_iconst dX9_text_76 (mi_c rfl) ?_
    obtain ⟨s11, g, hD⟩ := bd hD
    refine ew_putI 8 45 dX9_text_77 rfl (Nat.le_of_ble_eq_true rfl) w_1310 in_X9 tyX9_ok nmX9 (Or.inl rfl) rfl g ?_
    refine ev_aload_n dX9_text_80 0 rfl rfl ?_
    refine ev_iconst dX9_text_81 (mi_c rfl) ?_
    obtain ⟨s12, g, hD⟩ := bd hD
    refine ew_putI 8 46 dX9_text_82 rfl (Nat.le_of_ble_eq_true rfl) w_1311 in_X9 tyX9_ok nmX9 (Or.inl rfl) rfl g ?_
    refine ev_iconst dX9_text_85 (mi_c rfl) ?_
    refine ev_istore_n dX9_text_86 rfl (Nat.le_of_ble_eq_true rfl) rfl ?_
    obtain ⟨r13, g, hD⟩ := bd hD
    refine Ev.pick [1, 0] rfl ?_
    refine lk_X9_text_87 mFU g ?_
    refine ev_aload_n dX9_text_107 0 rfl rfl ?_
    obtain ⟨v14, g, hD⟩ := bd hD
    refine ew_getR 8 3 dX9_text_108 rfl (Nat.le_of_ble_eq_true rfl) w_1268 in_X9 rfl g ?_
    refine ev_iconst dX9_text_111 (mi_c rfl) ?_
    refine ev_iconst dX9_text_112 (mi_c rfl) ?_
    obtain ⟨s15, g, hD⟩ := bd hD
    refine ew_iast dX9_text_113 g ?_
    refine ev_aload_n dX9_text_114 0 rfl rfl ?_
    obtain ⟨_, g0, hD⟩ := bd hD
    obtain ⟨r16, g, hD⟩ := bd hD
    refine ew_callV0 (as := []) (a := x0) (rest := []) dX9_text_115 v_X9_oneLine w_1445 rfl (Nat.le_of_ble_eq_true rfl) rfl rfl g0 (Nat.le_of_ble_eq_true rfl) (Nat.le_of_ble_eq_true rfl) (ct_X9_oneLine g) ?_
    obtain ⟨r17, g, hD⟩ := bd hD
    refine lk_X9_text_118 mFU g ?_
    exact lk_X9_text_150 hD
  · rw [if_neg c] at hD
    refine ev_if_ne_f 25 dX9_text_20 (by decide) c ?_
    refine ev_iconst dX9_text_23 (mi_c rfl) ?_
    cases hD
    exact ev_ret (some (vi _)) dX9_text_24 True.intro
theorem ct_X9_text {G : mG} {x0 : Nat} {x1 : Int} {σ : mS} {R : (Int × mS)} (hD : D_X9_text x0 x1 σ = some R) : Ct G M_X9_text [vr x0, vi x1] σ (.inl (some (vi R.1))) R.2 := ct_of rfl (by decide +kernel) rfl (Nat.le_of_ble_eq_true rfl) rfl (lk_X9_text hD)
def D_X9_fault (x0 : Nat) (σ : mS) : Option (Int × mS) :=
  (pI σ x0 8 0 0).bind fun s1 =>
  (gI s1 x0 8 44).bind fun v2 =>
  some (v2, s1)
set_option maxRecDepth 100000 in
set_option maxHeartbeats 4000000 in
theorem lk_X9_fault {G : mG} {x0 : Nat} {σ : mS} {R : (Int × mS)} (hD : D_X9_fault x0 σ = some R) : Ev G M_X9_fault 0 [(0, vr x0)] [] σ (.inl (some (vi R.1))) R.2 := by
  unfold D_X9_fault at hD
  refine ev_aload_n dX9_fault_0 0 rfl rfl ?_
  refine ev_iconst dX9_fault_1 (mi_c rfl) ?_
  obtain ⟨s1, g, hD⟩ := bd hD
  refine ew_putI 8 0 dX9_fault_2 rfl (Nat.le_of_ble_eq_true rfl) w_1265 in_X9 tyX9_ok nmX9 (Or.inl rfl) rfl g ?_
  refine ev_aload_n dX9_fault_5 0 rfl rfl ?_
  obtain ⟨v2, g, hD⟩ := bd hD
  refine ew_getI 8 44 dX9_fault_6 rfl (Nat.le_of_ble_eq_true rfl) w_1309 in_X9 rfl g ?_
  cases hD
  exact ev_ret (some (vi _)) dX9_fault_9 True.intro
theorem ct_X9_fault {G : mG} {x0 : Nat} {σ : mS} {R : (Int × mS)} (hD : D_X9_fault x0 σ = some R) : Ct G M_X9_fault [vr x0] σ (.inl (some (vi R.1))) R.2 := ct_of rfl (by decide +kernel) rfl (Nat.le_of_ble_eq_true rfl) rfl (lk_X9_fault hD)
def D_X9_laysBack_52 : Nat → Nat → Int → mS → Option mS
  | 0, _, _, _ => none
  | f + 1, x0, x1, σ =>
    if 303 ≤ x1 then
      some σ
    else
      (gR σ x0 8 4).bind fun v1 =>
      (gI σ x0 8 5).bind fun v2 =>
      (gR σ x0 8 2).bind fun v3 =>
      (lI σ v3 x1).bind fun v4 =>
      (sI σ v1 (mw ((mw (303 * v2)) + x1)) v4).bind fun s5 =>
      (D_X9_laysBack_52 f) x0 (mw (x1 + 1)) s5
set_option maxRecDepth 100000 in
set_option maxHeartbeats 4000000 in
theorem lk_X9_laysBack_52 {G : mG} (f : Nat) : ∀ {x0 : Nat} {x1 : Int} {σ : mS} {R : mS}, D_X9_laysBack_52 f x0 x1 σ = some R → ∀ {r : mX} {τ : mS}, Ev G M_X9_laysBack 86 [(0, vr x0)] [] R r τ → Ev G M_X9_laysBack 52 [(0, vr x0), (1, vi x1)] [] σ r τ := by
  induction f with
  | zero =>
    intros
    rename_i hD _ _ _
    cases hD
  | succ f ih =>
    intro x0 x1 σ R hD r τ hk
    have hrec := @ih
    rw [D_X9_laysBack_52] at hD
    refine ev_iload_n dX9_laysBack_52 1 rfl rfl ?_
    refine ev_sp dX9_laysBack_53 rfl ?_
    by_cases c : 303 ≤ x1
    · rw [if_pos c] at hD
      refine ev_icmp_ge_t (tgt := 86) dX9_laysBack_56 (by decide) c ?_
      cases hD
      refine Ev.pick [0] rfl ?_
      exact hk
    · rw [if_neg c] at hD
      refine ev_icmp_ge_f 86 dX9_laysBack_56 (by decide) c ?_
      refine ev_aload_n dX9_laysBack_59 0 rfl rfl ?_
      obtain ⟨v1, g, hD⟩ := bd hD
      refine ew_getR 8 4 dX9_laysBack_60 rfl (Nat.le_of_ble_eq_true rfl) w_1269 in_X9 rfl g ?_
      refine ev_sp dX9_laysBack_63 rfl ?_
      refine ev_aload_n dX9_laysBack_66 0 rfl rfl ?_
      obtain ⟨v2, g, hD⟩ := bd hD
      refine ew_getI 8 5 dX9_laysBack_67 rfl (Nat.le_of_ble_eq_true rfl) w_1270 in_X9 rfl g ?_
      refine ev_imul dX9_laysBack_70 ?_
      refine ev_iload_n dX9_laysBack_71 1 rfl rfl ?_
      refine ev_iadd dX9_laysBack_72 ?_
      refine ev_aload_n dX9_laysBack_73 0 rfl rfl ?_
      obtain ⟨v3, g, hD⟩ := bd hD
      refine ew_getR 8 2 dX9_laysBack_74 rfl (Nat.le_of_ble_eq_true rfl) w_1267 in_X9 rfl g ?_
      refine ev_iload_n dX9_laysBack_77 1 rfl rfl ?_
      obtain ⟨v4, g, hD⟩ := bd hD
      refine ew_iald dX9_laysBack_78 g ?_
      obtain ⟨s5, g, hD⟩ := bd hD
      refine ew_iast dX9_laysBack_79 g ?_
      refine ev_iinc dX9_laysBack_80 1 rfl (Nat.le_of_ble_eq_true rfl) rfl ?_
      refine ev_goto (tgt := 52) dX9_laysBack_83 (by decide) ?_
      refine Ev.pick [1, 0] rfl ?_
      exact hrec hD hk
def D_X9_laysBack_50 (x0 : Nat) (σ : mS) : Option mS :=
  (D_X9_laysBack_52 mFU x0 0 σ).bind fun r1 =>
  (gI r1 x0 8 5).bind fun v2 =>
  (pI r1 x0 8 5 (mw (v2 + 1))).bind fun s3 =>
  some s3
set_option maxRecDepth 100000 in
set_option maxHeartbeats 4000000 in
theorem lk_X9_laysBack_50 {G : mG} {x0 : Nat} {σ : mS} {R : mS} (hD : D_X9_laysBack_50 x0 σ = some R) : Ev G M_X9_laysBack 50 [(0, vr x0)] [] σ (.inl none) R := by
  unfold D_X9_laysBack_50 at hD
  refine ev_iconst dX9_laysBack_50 (mi_c rfl) ?_
  refine ev_istore_n dX9_laysBack_51 rfl (Nat.le_of_ble_eq_true rfl) rfl ?_
  obtain ⟨r1, g, hD⟩ := bd hD
  refine Ev.pick [1, 0] rfl ?_
  refine lk_X9_laysBack_52 mFU g ?_
  refine ev_aload_n dX9_laysBack_86 0 rfl rfl ?_
  refine ev_dup dX9_laysBack_87 rfl ?_
  obtain ⟨v2, g, hD⟩ := bd hD
  refine ew_getI 8 5 dX9_laysBack_88 rfl (Nat.le_of_ble_eq_true rfl) w_1270 in_X9 rfl g ?_
  refine ev_iconst dX9_laysBack_91 (mi_c rfl) ?_
  refine ev_iadd dX9_laysBack_92 ?_
  obtain ⟨s3, g, hD⟩ := bd hD
  refine ew_putI 8 5 dX9_laysBack_93 rfl (Nat.le_of_ble_eq_true rfl) w_1270 in_X9 tyX9_ok nmX9 (Or.inl rfl) rfl g ?_
  cases hD
  exact ev_ret none dX9_laysBack_96 True.intro
def D_X9_laysBack_11 : Nat → Nat → Int → mS → Option mS
  | 0, _, _, _ => none
  | f + 1, x0, x1, σ =>
    if 3333 ≤ x1 then
      some σ
    else
      (gR σ x0 8 4).bind fun v1 =>
      (gR σ x0 8 4).bind fun v2 =>
      (lI σ v2 (mw (x1 + 303))).bind fun v3 =>
      (sI σ v1 x1 v3).bind fun s4 =>
      (D_X9_laysBack_11 f) x0 (mw (x1 + 1)) s4
set_option maxRecDepth 100000 in
set_option maxHeartbeats 4000000 in
theorem lk_X9_laysBack_11 {G : mG} (f : Nat) : ∀ {x0 : Nat} {x1 : Int} {σ : mS} {R : mS}, D_X9_laysBack_11 f x0 x1 σ = some R → ∀ {r : mX} {τ : mS}, Ev G M_X9_laysBack 40 [(0, vr x0)] [] R r τ → Ev G M_X9_laysBack 11 [(0, vr x0), (1, vi x1)] [] σ r τ := by
  induction f with
  | zero =>
    intros
    rename_i hD _ _ _
    cases hD
  | succ f ih =>
    intro x0 x1 σ R hD r τ hk
    have hrec := @ih
    rw [D_X9_laysBack_11] at hD
    refine ev_iload_n dX9_laysBack_11 1 rfl rfl ?_
    refine ev_sp dX9_laysBack_12 rfl ?_
    by_cases c : 3333 ≤ x1
    · rw [if_pos c] at hD
      refine ev_icmp_ge_t (tgt := 40) dX9_laysBack_15 (by decide) c ?_
      cases hD
      refine Ev.pick [0] rfl ?_
      exact hk
    · rw [if_neg c] at hD
      refine ev_icmp_ge_f 40 dX9_laysBack_15 (by decide) c ?_
      refine ev_aload_n dX9_laysBack_18 0 rfl rfl ?_
      obtain ⟨v1, g, hD⟩ := bd hD
      refine ew_getR 8 4 dX9_laysBack_19 rfl (Nat.le_of_ble_eq_true rfl) w_1269 in_X9 rfl g ?_
      refine ev_iload_n dX9_laysBack_22 1 rfl rfl ?_
      refine ev_aload_n dX9_laysBack_23 0 rfl rfl ?_
      obtain ⟨v2, g, hD⟩ := bd hD
      refine ew_getR 8 4 dX9_laysBack_24 rfl (Nat.le_of_ble_eq_true rfl) w_1269 in_X9 rfl g ?_
      refine ev_iload_n dX9_laysBack_27 1 rfl rfl ?_
      refine ev_sp dX9_laysBack_28 rfl ?_
      refine ev_iadd dX9_laysBack_31 ?_
      obtain ⟨v3, g, hD⟩ := bd hD
      refine ew_iald dX9_laysBack_32 g ?_
      obtain ⟨s4, g, hD⟩ := bd hD
      refine ew_iast dX9_laysBack_33 g ?_
      refine ev_iinc dX9_laysBack_34 1 rfl (Nat.le_of_ble_eq_true rfl) rfl ?_
      refine ev_goto (tgt := 11) dX9_laysBack_37 (by decide) ?_
      refine Ev.pick [1, 0] rfl ?_
      exact hrec hD hk
def D_X9_laysBack (x0 : Nat) (σ : mS) : Option mS :=
  (gI σ x0 8 5).bind fun v1 =>
  if v1 ≠ 12 then
    D_X9_laysBack_50 x0 σ
  else
    (D_X9_laysBack_11 mFU x0 0 σ).bind fun r2 =>
    (gI r2 x0 8 5).bind fun v3 =>
    (pI r2 x0 8 5 (mw (v3 - 1))).bind fun s4 =>
    D_X9_laysBack_50 x0 s4
set_option maxRecDepth 100000 in
set_option maxHeartbeats 4000000 in
theorem lk_X9_laysBack {G : mG} {x0 : Nat} {σ : mS} {R : mS} (hD : D_X9_laysBack x0 σ = some R) : Ev G M_X9_laysBack 0 [(0, vr x0)] [] σ (.inl none) R := by
  unfold D_X9_laysBack at hD
  refine ev_aload_n dX9_laysBack_0 0 rfl rfl ?_
  obtain ⟨v1, g, hD⟩ := bd hD
  refine ew_getI 8 5 dX9_laysBack_1 rfl (Nat.le_of_ble_eq_true rfl) w_1270 in_X9 rfl g ?_
  refine ev_bp dX9_laysBack_4 rfl ?_
  by_cases c : v1 ≠ 12
  · rw [if_pos c] at hD
    refine ev_icmp_ne_t (tgt := 50) dX9_laysBack_6 (by decide) c ?_
    exact lk_X9_laysBack_50 hD
  · rw [if_neg c] at hD
    refine ev_icmp_ne_f 50 dX9_laysBack_6 (by decide) c ?_
    refine ev_iconst dX9_laysBack_9 (mi_c rfl) ?_
    refine ev_istore_n dX9_laysBack_10 rfl (Nat.le_of_ble_eq_true rfl) rfl ?_
    obtain ⟨r2, g, hD⟩ := bd hD
    refine Ev.pick [1, 0] rfl ?_
    refine lk_X9_laysBack_11 mFU g ?_
    refine ev_aload_n dX9_laysBack_40 0 rfl rfl ?_
    refine ev_dup dX9_laysBack_41 rfl ?_
    obtain ⟨v3, g, hD⟩ := bd hD
    refine ew_getI 8 5 dX9_laysBack_42 rfl (Nat.le_of_ble_eq_true rfl) w_1270 in_X9 rfl g ?_
    refine ev_iconst dX9_laysBack_45 (mi_c rfl) ?_
    refine ev_isub dX9_laysBack_46 ?_
    obtain ⟨s4, g, hD⟩ := bd hD
    refine ew_putI 8 5 dX9_laysBack_47 rfl (Nat.le_of_ble_eq_true rfl) w_1270 in_X9 tyX9_ok nmX9 (Or.inl rfl) rfl g ?_
    exact lk_X9_laysBack_50 hD
theorem ct_X9_laysBack {G : mG} {x0 : Nat} {σ : mS} {R : mS} (hD : D_X9_laysBack x0 σ = some R) : Ct G M_X9_laysBack [vr x0] σ (.inl none) R := ct_of rfl (by decide +kernel) rfl (Nat.le_of_ble_eq_true rfl) rfl (lk_X9_laysBack hD)
def D_X9_isSample (x0 : Nat) (x1 : Int) (σ : mS) : Option (Int × mS) :=
  (gI σ x0 8 6).bind fun v1 =>
  (D_X9_within x1 0 (mw (v1 - 1)) σ).bind fun r2 =>
  (tgO σ x0 8).bind fun _ =>
  (D_X9_isFine x0 r2 1 0 σ).bind fun r3 =>
  (bO r3.1).bind fun v4 =>
  some (v4, r3.2)
set_option maxRecDepth 100000 in
set_option maxHeartbeats 4000000 in
theorem lk_X9_isSample {G : mG} {x0 : Nat} {x1 : Int} {σ : mS} {R : (Int × mS)} (hD : D_X9_isSample x0 x1 σ = some R) : Ev G M_X9_isSample 0 [(0, vr x0), (1, vi x1)] [] σ (.inl (some (vi R.1))) R.2 := by
  unfold D_X9_isSample at hD
  refine ev_aload_n dX9_isSample_0 0 rfl rfl ?_
  refine ev_iload_n dX9_isSample_1 1 rfl rfl ?_
  refine ev_iconst dX9_isSample_2 (mi_c rfl) ?_
  refine ev_aload_n dX9_isSample_3 0 rfl rfl ?_
  obtain ⟨v1, g, hD⟩ := bd hD
  refine ew_getI 8 6 dX9_isSample_4 rfl (Nat.le_of_ble_eq_true rfl) w_1271 in_X9 rfl g ?_
  refine ev_iconst dX9_isSample_7 (mi_c rfl) ?_
  refine ev_isub dX9_isSample_8 ?_
  obtain ⟨r2, g, hD⟩ := bd hD
  refine ew_callSv (as := [vi x1, vi 0, vi (mw (v1 - 1))]) (rest := [vr x0]) dX9_isSample_9 v_X9_within w_1438 rfl (Nat.le_of_ble_eq_true rfl) (Nat.le_of_ble_eq_true rfl) (Nat.le_of_ble_eq_true rfl) (ct_X9_within g) ?_
  refine ev_iconst dX9_isSample_12 (mi_c rfl) ?_
  refine ev_iconst dX9_isSample_13 (mi_c rfl) ?_
  obtain ⟨_, g0, hD⟩ := bd hD
  obtain ⟨r3, g, hD⟩ := bd hD
  refine ew_callVv (as := [vi r2, vi 1, vi 0]) (a := x0) (rest := []) dX9_isSample_14 v_X9_isFine w_1441 rfl (Nat.le_of_ble_eq_true rfl) rfl rfl g0 (Nat.le_of_ble_eq_true rfl) (Nat.le_of_ble_eq_true rfl) (ct_X9_isFine g) ?_
  obtain ⟨v4, gb, hD⟩ := bd hD
  cases hD
  exact ew_retb dX9_isSample_17 rfl gb
theorem ct_X9_isSample {G : mG} {x0 : Nat} {x1 : Int} {σ : mS} {R : (Int × mS)} (hD : D_X9_isSample x0 x1 σ = some R) : Ct G M_X9_isSample [vr x0, vi x1] σ (.inl (some (vi R.1))) R.2 := ct_of rfl (by decide +kernel) rfl (Nat.le_of_ble_eq_true rfl) rfl (lk_X9_isSample hD)
def D_X9_isRule (x0 : Nat) (x1 : Int) (σ : mS) : Option (Int × mS) :=
  (gR σ x0 8 2).bind fun v1 =>
  (lI σ v1 2).bind fun v2 =>
  (D_X9_within x1 0 (mw (v2 - 1)) σ).bind fun r3 =>
  (tgO σ x0 8).bind fun _ =>
  (D_X9_isFine x0 r3 1 0 σ).bind fun r4 =>
  (bO r4.1).bind fun v5 =>
  some (v5, r4.2)
set_option maxRecDepth 100000 in
set_option maxHeartbeats 4000000 in
theorem lk_X9_isRule {G : mG} {x0 : Nat} {x1 : Int} {σ : mS} {R : (Int × mS)} (hD : D_X9_isRule x0 x1 σ = some R) : Ev G M_X9_isRule 0 [(0, vr x0), (1, vi x1)] [] σ (.inl (some (vi R.1))) R.2 := by
  unfold D_X9_isRule at hD
  refine ev_aload_n dX9_isRule_0 0 rfl rfl ?_
  refine ev_iload_n dX9_isRule_1 1 rfl rfl ?_
  refine ev_iconst dX9_isRule_2 (mi_c rfl) ?_
  refine ev_aload_n dX9_isRule_3 0 rfl rfl ?_
  obtain ⟨v1, g, hD⟩ := bd hD
  refine ew_getR 8 2 dX9_isRule_4 rfl (Nat.le_of_ble_eq_true rfl) w_1267 in_X9 rfl g ?_
  refine ev_iconst dX9_isRule_7 (mi_c rfl) ?_
  obtain ⟨v2, g, hD⟩ := bd hD
  refine ew_iald dX9_isRule_8 g ?_
  refine ev_iconst dX9_isRule_9 (mi_c rfl) ?_
  refine ev_isub dX9_isRule_10 ?_
  obtain ⟨r3, g, hD⟩ := bd hD
  refine ew_callSv (as := [vi x1, vi 0, vi (mw (v2 - 1))]) (rest := [vr x0]) dX9_isRule_11 v_X9_within w_1438 rfl (Nat.le_of_ble_eq_true rfl) (Nat.le_of_ble_eq_true rfl) (Nat.le_of_ble_eq_true rfl) (ct_X9_within g) ?_
  refine ev_iconst dX9_isRule_14 (mi_c rfl) ?_
  refine ev_iconst dX9_isRule_15 (mi_c rfl) ?_
  obtain ⟨_, g0, hD⟩ := bd hD
  obtain ⟨r4, g, hD⟩ := bd hD
  refine ew_callVv (as := [vi r3, vi 1, vi 0]) (a := x0) (rest := []) dX9_isRule_16 v_X9_isFine w_1441 rfl (Nat.le_of_ble_eq_true rfl) rfl rfl g0 (Nat.le_of_ble_eq_true rfl) (Nat.le_of_ble_eq_true rfl) (ct_X9_isFine g) ?_
  obtain ⟨v5, gb, hD⟩ := bd hD
  cases hD
  exact ew_retb dX9_isRule_19 rfl gb
theorem ct_X9_isRule {G : mG} {x0 : Nat} {x1 : Int} {σ : mS} {R : (Int × mS)} (hD : D_X9_isRule x0 x1 σ = some R) : Ct G M_X9_isRule [vr x0, vi x1] σ (.inl (some (vi R.1))) R.2 := ct_of rfl (by decide +kernel) rfl (Nat.le_of_ble_eq_true rfl) rfl (lk_X9_isRule hD)
def D_X9_isPhase (x0 : Nat) (x1 : Int) (σ : mS) : Option (Int × mS) :=
  (gI σ x0 8 7).bind fun v1 =>
  (D_X9_within x1 0 (mw (v1 - 1)) σ).bind fun r2 =>
  (tgO σ x0 8).bind fun _ =>
  (D_X9_isFine x0 r2 1 0 σ).bind fun r3 =>
  (bO r3.1).bind fun v4 =>
  some (v4, r3.2)
set_option maxRecDepth 100000 in
set_option maxHeartbeats 4000000 in
theorem lk_X9_isPhase {G : mG} {x0 : Nat} {x1 : Int} {σ : mS} {R : (Int × mS)} (hD : D_X9_isPhase x0 x1 σ = some R) : Ev G M_X9_isPhase 0 [(0, vr x0), (1, vi x1)] [] σ (.inl (some (vi R.1))) R.2 := by
  unfold D_X9_isPhase at hD
  refine ev_aload_n dX9_isPhase_0 0 rfl rfl ?_
  refine ev_iload_n dX9_isPhase_1 1 rfl rfl ?_
  refine ev_iconst dX9_isPhase_2 (mi_c rfl) ?_
  refine ev_aload_n dX9_isPhase_3 0 rfl rfl ?_
  obtain ⟨v1, g, hD⟩ := bd hD
  refine ew_getI 8 7 dX9_isPhase_4 rfl (Nat.le_of_ble_eq_true rfl) w_1272 in_X9 rfl g ?_
  refine ev_iconst dX9_isPhase_7 (mi_c rfl) ?_
  refine ev_isub dX9_isPhase_8 ?_
  obtain ⟨r2, g, hD⟩ := bd hD
  refine ew_callSv (as := [vi x1, vi 0, vi (mw (v1 - 1))]) (rest := [vr x0]) dX9_isPhase_9 v_X9_within w_1438 rfl (Nat.le_of_ble_eq_true rfl) (Nat.le_of_ble_eq_true rfl) (Nat.le_of_ble_eq_true rfl) (ct_X9_within g) ?_
  refine ev_iconst dX9_isPhase_12 (mi_c rfl) ?_
  refine ev_iconst dX9_isPhase_13 (mi_c rfl) ?_
  obtain ⟨_, g0, hD⟩ := bd hD
  obtain ⟨r3, g, hD⟩ := bd hD
  refine ew_callVv (as := [vi r2, vi 1, vi 0]) (a := x0) (rest := []) dX9_isPhase_14 v_X9_isFine w_1441 rfl (Nat.le_of_ble_eq_true rfl) rfl rfl g0 (Nat.le_of_ble_eq_true rfl) (Nat.le_of_ble_eq_true rfl) (ct_X9_isFine g) ?_
  obtain ⟨v4, gb, hD⟩ := bd hD
  cases hD
  exact ew_retb dX9_isPhase_17 rfl gb
theorem ct_X9_isPhase {G : mG} {x0 : Nat} {x1 : Int} {σ : mS} {R : (Int × mS)} (hD : D_X9_isPhase x0 x1 σ = some R) : Ct G M_X9_isPhase [vr x0, vi x1] σ (.inl (some (vi R.1))) R.2 := ct_of rfl (by decide +kernel) rfl (Nat.le_of_ble_eq_true rfl) rfl (lk_X9_isPhase hD)
def D_X9_set_42 (x0 : Nat) (x1 : Int) (x2 : Int) (y0 : Int) (y1 : Nat) (σ : mS) : Option (Int × mS) :=
  (tgO σ y1 8).bind fun _ =>
  (D_X9_isFine y1 y0 1 1 σ).bind fun r1 =>
  if r1.1 ≠ 0 then
    (tgO r1.2 x0 8).bind fun _ =>
    (D_X9_laysBack x0 r1.2).bind fun r2 =>
    (gR r2 x0 8 2).bind fun v3 =>
    (lI r2 v3 x1).bind fun v4 =>
    (gR r2 x0 8 2).bind fun v5 =>
    (sI r2 v5 x1 x2).bind fun s6 =>
    (pB s6 x0 8 16 0).bind fun s7 =>
    some (v4, s7)
  else
    some (0, r1.2)
set_option maxRecDepth 100000 in
set_option maxHeartbeats 4000000 in
theorem lk_X9_set_42 {G : mG} {x0 : Nat} {x1 : Int} {x2 : Int} {y0 : Int} {y1 : Nat} {σ : mS} {R : (Int × mS)} (hD : D_X9_set_42 x0 x1 x2 y0 y1 σ = some R) : Ev G M_X9_set 42 [(0, vr x0), (1, vi x1), (2, vi x2)] [vi y0, vr y1] σ (.inl (some (vi R.1))) R.2 := by
  unfold D_X9_set_42 at hD
  refine ev_iconst dX9_set_42 (mi_c rfl) ?_
  refine ev_iconst dX9_set_43 (mi_c rfl) ?_
  obtain ⟨_, g0, hD⟩ := bd hD
  obtain ⟨r1, g, hD⟩ := bd hD
  refine ew_callVv (as := [vi y0, vi 1, vi 1]) (a := y1) (rest := []) dX9_set_44 v_X9_isFine w_1441 rfl (Nat.le_of_ble_eq_true rfl) rfl rfl g0 (Nat.le_of_ble_eq_true rfl) (Nat.le_of_ble_eq_true rfl) (ct_X9_isFine g) ?_
  by_cases c : r1.1 ≠ 0
  · rw [if_pos c] at hD
    refine ev_if_ne_t (tgt := 52) dX9_set_47 (by decide) c ?_
    refine ev_aload_n dX9_set_52 0 rfl rfl ?_
    obtain ⟨_, g0, hD⟩ := bd hD
    obtain ⟨r2, g, hD⟩ := bd hD
    refine ew_callV0 (as := []) (a := x0) (rest := []) dX9_set_53 v_X9_laysBack w_1585 rfl (Nat.le_of_ble_eq_true rfl) rfl rfl g0 (Nat.le_of_ble_eq_true rfl) (Nat.le_of_ble_eq_true rfl) (ct_X9_laysBack g) ?_
    refine ev_aload_n dX9_set_56 0 rfl rfl ?_
    obtain ⟨v3, g, hD⟩ := bd hD
    refine ew_getR 8 2 dX9_set_57 rfl (Nat.le_of_ble_eq_true rfl) w_1267 in_X9 rfl g ?_
    refine ev_iload_n dX9_set_60 1 rfl rfl ?_
    obtain ⟨v4, g, hD⟩ := bd hD
    refine ew_iald dX9_set_61 g ?_
    refine ev_istore_n dX9_set_62 rfl (Nat.le_of_ble_eq_true rfl) rfl ?_
    refine ev_aload_n dX9_set_63 1 rfl rfl ?_
    obtain ⟨v5, g, hD⟩ := bd hD
    refine ew_getR 8 2 dX9_set_64 rfl (Nat.le_of_ble_eq_true rfl) w_1267 in_X9 rfl g ?_
    refine ev_iload_n dX9_set_67 2 rfl rfl ?_
    refine ev_iload_n dX9_set_68 3 rfl rfl ?_
    obtain ⟨s6, g, hD⟩ := bd hD
    refine ew_iast dX9_set_69 g ?_
    refine ev_aload_n dX9_set_70 1 rfl rfl ?_
    refine ev_iconst dX9_set_71 (mi_c rfl) ?_
    obtain ⟨s7, g, hD⟩ := bd hD
    refine ew_putB 8 16 dX9_set_72 rfl (Nat.le_of_ble_eq_true rfl) w_1281 in_X9 tyX9_ok nmX9 (Or.inl rfl) rfl g ?_
    refine ev_iload_n dX9_set_75 0 rfl rfl ?_
    cases hD
    exact ev_ret (some (vi _)) dX9_set_76 True.intro
  · rw [if_neg c] at hD
    refine ev_if_ne_f 52 dX9_set_47 (by decide) c ?_
    refine ev_iconst dX9_set_50 (mi_c rfl) ?_
    cases hD
    exact ev_ret (some (vi _)) dX9_set_51 True.intro
def D_X9_set_41 (x0 : Nat) (x1 : Int) (x2 : Int) (y0 : Nat) (σ : mS) : Option (Int × mS) :=
  D_X9_set_42 x0 x1 x2 0 y0 σ
set_option maxRecDepth 100000 in
set_option maxHeartbeats 4000000 in
theorem lk_X9_set_41 {G : mG} {x0 : Nat} {x1 : Int} {x2 : Int} {y0 : Nat} {σ : mS} {R : (Int × mS)} (hD : D_X9_set_41 x0 x1 x2 y0 σ = some R) : Ev G M_X9_set 41 [(0, vr x0), (1, vi x1), (2, vi x2)] [vr y0] σ (.inl (some (vi R.1))) R.2 := by
  unfold D_X9_set_41 at hD
  refine ev_iconst dX9_set_41 (mi_c rfl) ?_
  exact lk_X9_set_42 hD
def D_X9_set (x0 : Nat) (x1 : Int) (x2 : Int) (σ : mS) : Option (Int × mS) :=
  (pI σ x0 8 0 0).bind fun s1 =>
  if x1 ≠ 0 then
    if x1 ≠ 1 then
      D_X9_set_41 x0 x1 x2 x0 s1
    else
      (D_X9_within x2 (-500) 500 s1).bind fun r2 =>
      if r2 = 0 then
        D_X9_set_41 x0 x1 x2 x0 s1
      else
        D_X9_set_42 x0 x1 x2 1 x0 s1
  else
    (D_X9_within x2 1 3 s1).bind fun r3 =>
    D_X9_set_42 x0 x1 x2 r3 x0 s1
set_option maxRecDepth 100000 in
set_option maxHeartbeats 4000000 in
theorem lk_X9_set {G : mG} {x0 : Nat} {x1 : Int} {x2 : Int} {σ : mS} {R : (Int × mS)} (hD : D_X9_set x0 x1 x2 σ = some R) : Ev G M_X9_set 0 [(0, vr x0), (1, vi x1), (2, vi x2)] [] σ (.inl (some (vi R.1))) R.2 := by
  unfold D_X9_set at hD
  refine ev_aload_n dX9_set_0 0 rfl rfl ?_
  refine ev_iconst dX9_set_1 (mi_c rfl) ?_
  obtain ⟨s1, g, hD⟩ := bd hD
  refine ew_putI 8 0 dX9_set_2 rfl (Nat.le_of_ble_eq_true rfl) w_1265 in_X9 tyX9_ok nmX9 (Or.inl rfl) rfl g ?_
  refine ev_aload_n dX9_set_5 0 rfl rfl ?_
  refine ev_iload_n dX9_set_6 1 rfl rfl ?_
  by_cases c : x1 ≠ 0
  · rw [if_pos c] at hD
    refine ev_if_ne_t (tgt := 19) dX9_set_7 (by decide) c ?_
    refine ev_iload_n dX9_set_19 1 rfl rfl ?_
    refine ev_iconst dX9_set_20 (mi_c rfl) ?_
    by_cases c : x1 ≠ 1
    · rw [if_pos c] at hD
      refine ev_icmp_ne_t (tgt := 41) dX9_set_21 (by decide) c ?_
      exact lk_X9_set_41 hD
    · rw [if_neg c] at hD
      refine ev_icmp_ne_f 41 dX9_set_21 (by decide) c ?_
      refine ev_iload_n dX9_set_24 2 rfl rfl ?_
      refine ev_sp dX9_set_25 rfl ?_
      refine ev_sp dX9_set_28 rfl ?_
      obtain ⟨r2, g, hD⟩ := bd hD
      refine ew_callSv (as := [vi x2, vi (-500), vi 500]) (rest := [vr x0]) dX9_set_31 v_X9_within w_1438 rfl (Nat.le_of_ble_eq_true rfl) (Nat.le_of_ble_eq_true rfl) (Nat.le_of_ble_eq_true rfl) (ct_X9_within g) ?_
      by_cases c : r2 = 0
      · rw [if_pos c] at hD
        refine ev_if_eq_t (tgt := 41) dX9_set_34 (by decide) c ?_
        exact lk_X9_set_41 hD
      · rw [if_neg c] at hD
        refine ev_if_eq_f 41 dX9_set_34 (by decide) c ?_
        refine ev_iconst dX9_set_37 (mi_c rfl) ?_
        refine ev_goto (tgt := 42) dX9_set_38 (by decide) ?_
        exact lk_X9_set_42 hD
  · rw [if_neg c] at hD
    refine ev_if_ne_f 19 dX9_set_7 (by decide) c ?_
    refine ev_iload_n dX9_set_10 2 rfl rfl ?_
    refine ev_iconst dX9_set_11 (mi_c rfl) ?_
    refine ev_iconst dX9_set_12 (mi_c rfl) ?_
    obtain ⟨r3, g, hD⟩ := bd hD
    refine ew_callSv (as := [vi x2, vi 1, vi 3]) (rest := [vr x0]) dX9_set_13 v_X9_within w_1438 rfl (Nat.le_of_ble_eq_true rfl) (Nat.le_of_ble_eq_true rfl) (Nat.le_of_ble_eq_true rfl) (ct_X9_within g) ?_
    refine ev_goto (tgt := 42) dX9_set_16 (by decide) ?_
    exact lk_X9_set_42 hD
theorem ct_X9_set {G : mG} {x0 : Nat} {x1 : Int} {x2 : Int} {σ : mS} {R : (Int × mS)} (hD : D_X9_set x0 x1 x2 σ = some R) : Ct G M_X9_set [vr x0, vi x1, vi x2] σ (.inl (some (vi R.1))) R.2 := ct_of rfl (by decide +kernel) rfl (Nat.le_of_ble_eq_true rfl) rfl (lk_X9_set hD)
def D_X9_redate_49 (σ : mS) : Option (Int × mS) :=
  some (0, σ)
set_option maxRecDepth 100000 in
set_option maxHeartbeats 4000000 in
theorem lk_X9_redate_49 {G : mG} {σ : mS} {R : (Int × mS)} (hD : D_X9_redate_49  σ = some R) : Ev G M_X9_redate 49 [] [] σ (.inl (some (vi R.1))) R.2 := by
  unfold D_X9_redate_49 at hD
  refine ev_iconst dX9_redate_49 (mi_c rfl) ?_
  cases hD
  exact ev_ret (some (vi _)) dX9_redate_50 True.intro
def D_X9_redate_71 : Nat → Nat → Int → Int → mS → Option mS
  | 0, _, _, _, _ => none
  | f + 1, x0, x1, x5, σ =>
    if 15 ≤ x5 then
      some σ
    else
      (gR σ x0 8 2).bind fun v1 =>
      (sI σ v1 (mw ((mw (123 + (mw (15 * x1)))) + x5)) 0).bind fun s2 =>
      (D_X9_redate_71 f) x0 x1 (mw (x5 + 1)) s2
set_option maxRecDepth 100000 in
set_option maxHeartbeats 4000000 in
theorem lk_X9_redate_71 {G : mG} {x2 : Int} {x3 : Int} {x4 : Int} (f : Nat) : ∀ {x0 : Nat} {x1 : Int} {x5 : Int} {σ : mS} {R : mS}, D_X9_redate_71 f x0 x1 x5 σ = some R → ∀ {r : mX} {τ : mS}, Ev G M_X9_redate 100 [(0, vr x0), (1, vi x1), (2, vi x2), (3, vi x3), (4, vi x4)] [] R r τ → Ev G M_X9_redate 71 [(0, vr x0), (1, vi x1), (2, vi x2), (3, vi x3), (4, vi x4), (5, vi x5)] [] σ r τ := by
  induction f with
  | zero =>
    intros
    rename_i hD _ _ _
    cases hD
  | succ f ih =>
    intro x0 x1 x5 σ R hD r τ hk
    have hrec := @ih
    rw [D_X9_redate_71] at hD
    refine ev_iload dX9_redate_71 5 rfl ?_
    refine ev_bp dX9_redate_73 rfl ?_
    by_cases c : 15 ≤ x5
    · rw [if_pos c] at hD
      refine ev_icmp_ge_t (tgt := 100) dX9_redate_75 (by decide) c ?_
      cases hD
      refine Ev.pick [0, 1, 2, 3, 4] rfl ?_
      exact hk
    · rw [if_neg c] at hD
      refine ev_icmp_ge_f 100 dX9_redate_75 (by decide) c ?_
      refine ev_aload_n dX9_redate_78 0 rfl rfl ?_
      obtain ⟨v1, g, hD⟩ := bd hD
      refine ew_getR 8 2 dX9_redate_79 rfl (Nat.le_of_ble_eq_true rfl) w_1267 in_X9 rfl g ?_
      refine ev_bp dX9_redate_82 rfl ?_
      refine ev_bp dX9_redate_84 rfl ?_
      refine ev_iload_n dX9_redate_86 1 rfl rfl ?_
      refine ev_imul dX9_redate_87 ?_
      refine ev_iadd dX9_redate_88 ?_
      refine ev_iload dX9_redate_89 5 rfl ?_
      refine ev_iadd dX9_redate_91 ?_
      refine ev_iconst dX9_redate_92 (mi_c rfl) ?_
      obtain ⟨s2, g, hD⟩ := bd hD
      refine ew_iast dX9_redate_93 g ?_
      refine ev_iinc dX9_redate_94 5 rfl (Nat.le_of_ble_eq_true rfl) rfl ?_
      refine ev_goto (tgt := 71) dX9_redate_97 (by decide) ?_
      refine Ev.pick [1, 2, 3, 4, 5, 0] rfl ?_
      exact hrec hD hk
def D_X9_redate_41 (x0 : Nat) (x1 : Int) (x2 : Int) (x3 : Int) (y0 : Int) (y1 : Nat) (σ : mS) : Option (Int × mS) :=
  (tgO σ y1 8).bind fun _ =>
  (D_X9_isFine y1 y0 2 1 σ).bind fun r1 =>
  if r1.1 ≠ 0 then
    (tgO r1.2 x0 8).bind fun _ =>
    (D_X9_laysBack x0 r1.2).bind fun r2 =>
    (pB r2 x0 8 16 0).bind fun s3 =>
    (tgO s3 x0 8).bind fun _ =>
    (D_X9_sampleAt x0 x1 0 s3).bind fun r4 =>
    (D_X9_redate_71 mFU x0 x1 0 s3).bind fun r5 =>
    (gR r5 x0 8 2).bind fun v6 =>
    (sI r5 v6 (mw ((mw (123 + (mw (15 * x1)))) + 1)) x2).bind fun s7 =>
    (gR s7 x0 8 2).bind fun v8 =>
    (sI s7 v8 (mw ((mw (123 + (mw (15 * x1)))) + 2)) x3).bind fun s9 =>
    some (r4, s9)
  else
    D_X9_redate_49  r1.2
set_option maxRecDepth 100000 in
set_option maxHeartbeats 4000000 in
theorem lk_X9_redate_41 {G : mG} {x0 : Nat} {x1 : Int} {x2 : Int} {x3 : Int} {y0 : Int} {y1 : Nat} {σ : mS} {R : (Int × mS)} (hD : D_X9_redate_41 x0 x1 x2 x3 y0 y1 σ = some R) : Ev G M_X9_redate 41 [(0, vr x0), (1, vi x1), (2, vi x2), (3, vi x3)] [vi y0, vr y1] σ (.inl (some (vi R.1))) R.2 := by
  unfold D_X9_redate_41 at hD
  refine ev_iconst dX9_redate_41 (mi_c rfl) ?_
  refine ev_iconst dX9_redate_42 (mi_c rfl) ?_
  obtain ⟨_, g0, hD⟩ := bd hD
  obtain ⟨r1, g, hD⟩ := bd hD
  refine ew_callVv (as := [vi y0, vi 2, vi 1]) (a := y1) (rest := []) dX9_redate_43 v_X9_isFine w_1441 rfl (Nat.le_of_ble_eq_true rfl) rfl rfl g0 (Nat.le_of_ble_eq_true rfl) (Nat.le_of_ble_eq_true rfl) (ct_X9_isFine g) ?_
  by_cases c : r1.1 ≠ 0
  · rw [if_pos c] at hD
    refine ev_if_ne_t (tgt := 51) dX9_redate_46 (by decide) c ?_
    refine ev_aload_n dX9_redate_51 0 rfl rfl ?_
    obtain ⟨_, g0, hD⟩ := bd hD
    obtain ⟨r2, g, hD⟩ := bd hD
    refine ew_callV0 (as := []) (a := x0) (rest := []) dX9_redate_52 v_X9_laysBack w_1585 rfl (Nat.le_of_ble_eq_true rfl) rfl rfl g0 (Nat.le_of_ble_eq_true rfl) (Nat.le_of_ble_eq_true rfl) (ct_X9_laysBack g) ?_
    refine ev_aload_n dX9_redate_55 0 rfl rfl ?_
    refine ev_iconst dX9_redate_56 (mi_c rfl) ?_
    obtain ⟨s3, g, hD⟩ := bd hD
    refine ew_putB 8 16 dX9_redate_57 rfl (Nat.le_of_ble_eq_true rfl) w_1281 in_X9 tyX9_ok nmX9 (Or.inl rfl) rfl g ?_
    refine ev_aload_n dX9_redate_60 0 rfl rfl ?_
    refine ev_iload_n dX9_redate_61 1 rfl rfl ?_
    refine ev_iconst dX9_redate_62 (mi_c rfl) ?_
    obtain ⟨_, g0, hD⟩ := bd hD
    obtain ⟨r4, g, hD⟩ := bd hD
    refine ew_callVv (as := [vi x1, vi 0]) (a := x0) (rest := []) dX9_redate_63 v_X9_sampleAt w_1597 rfl (Nat.le_of_ble_eq_true rfl) rfl rfl g0 (Nat.le_of_ble_eq_true rfl) (Nat.le_of_ble_eq_true rfl) (ct_X9_sampleAt g) ?_
    refine ev_istore dX9_redate_66 (Nat.le_of_ble_eq_true rfl) rfl ?_
    refine ev_iconst dX9_redate_68 (mi_c rfl) ?_
    refine ev_istore dX9_redate_69 (Nat.le_of_ble_eq_true rfl) rfl ?_
    obtain ⟨r5, g, hD⟩ := bd hD
    refine Ev.pick [2, 3, 4, 5, 1, 0] rfl ?_
    refine lk_X9_redate_71 mFU g ?_
    refine ev_aload_n dX9_redate_100 0 rfl rfl ?_
    obtain ⟨v6, g, hD⟩ := bd hD
    refine ew_getR 8 2 dX9_redate_101 rfl (Nat.le_of_ble_eq_true rfl) w_1267 in_X9 rfl g ?_
    refine ev_bp dX9_redate_104 rfl ?_
    refine ev_bp dX9_redate_106 rfl ?_
    refine ev_iload_n dX9_redate_108 1 rfl rfl ?_
    refine ev_imul dX9_redate_109 ?_
    refine ev_iadd dX9_redate_110 ?_
    refine ev_iconst dX9_redate_111 (mi_c rfl) ?_
    refine ev_iadd dX9_redate_112 ?_
    refine ev_iload_n dX9_redate_113 2 rfl rfl ?_
    obtain ⟨s7, g, hD⟩ := bd hD
    refine ew_iast dX9_redate_114 g ?_
    refine ev_aload_n dX9_redate_115 0 rfl rfl ?_
    obtain ⟨v8, g, hD⟩ := bd hD
    refine ew_getR 8 2 dX9_redate_116 rfl (Nat.le_of_ble_eq_true rfl) w_1267 in_X9 rfl g ?_
    refine ev_bp dX9_redate_119 rfl ?_
    refine ev_bp dX9_redate_121 rfl ?_
    refine ev_iload_n dX9_redate_123 1 rfl rfl ?_
    refine ev_imul dX9_redate_124 ?_
    refine ev_iadd dX9_redate_125 ?_
    refine ev_iconst dX9_redate_126 (mi_c rfl) ?_
    refine ev_iadd dX9_redate_127 ?_
    refine ev_iload_n dX9_redate_128 3 rfl rfl ?_
    obtain ⟨s9, g, hD⟩ := bd hD
    refine ew_iast dX9_redate_129 g ?_
    refine ev_iload dX9_redate_130 4 rfl ?_
    cases hD
    exact ev_ret (some (vi _)) dX9_redate_132 True.intro
  · rw [if_neg c] at hD
    refine ev_if_ne_f 51 dX9_redate_46 (by decide) c ?_
    refine Ev.pick [] rfl ?_
    exact lk_X9_redate_49 hD
def D_X9_redate_40 (x0 : Nat) (x1 : Int) (x2 : Int) (x3 : Int) (y0 : Nat) (σ : mS) : Option (Int × mS) :=
  D_X9_redate_41 x0 x1 x2 x3 0 y0 σ
set_option maxRecDepth 100000 in
set_option maxHeartbeats 4000000 in
theorem lk_X9_redate_40 {G : mG} {x0 : Nat} {x1 : Int} {x2 : Int} {x3 : Int} {y0 : Nat} {σ : mS} {R : (Int × mS)} (hD : D_X9_redate_40 x0 x1 x2 x3 y0 σ = some R) : Ev G M_X9_redate 40 [(0, vr x0), (1, vi x1), (2, vi x2), (3, vi x3)] [vr y0] σ (.inl (some (vi R.1))) R.2 := by
  unfold D_X9_redate_40 at hD
  refine ev_iconst dX9_redate_40 (mi_c rfl) ?_
  exact lk_X9_redate_41 hD
def D_X9_redate (x0 : Nat) (x1 : Int) (x2 : Int) (x3 : Int) (σ : mS) : Option (Int × mS) :=
  (pI σ x0 8 0 0).bind fun s1 =>
  (tgO s1 x0 8).bind fun _ =>
  (D_X9_isSample x0 x1 s1).bind fun r2 =>
  if r2.1 = 0 then
    D_X9_redate_49  r2.2
  else
    (D_X9_within x2 0 9999 r2.2).bind fun r3 =>
    if r3 = 0 then
      D_X9_redate_40 x0 x1 x2 x3 x0 r2.2
    else
      (D_X9_within x3 0 999 r2.2).bind fun r4 =>
      if r4 = 0 then
        D_X9_redate_40 x0 x1 x2 x3 x0 r2.2
      else
        D_X9_redate_41 x0 x1 x2 x3 1 x0 r2.2
set_option maxRecDepth 100000 in
set_option maxHeartbeats 4000000 in
theorem lk_X9_redate {G : mG} {x0 : Nat} {x1 : Int} {x2 : Int} {x3 : Int} {σ : mS} {R : (Int × mS)} (hD : D_X9_redate x0 x1 x2 x3 σ = some R) : Ev G M_X9_redate 0 [(0, vr x0), (1, vi x1), (2, vi x2), (3, vi x3)] [] σ (.inl (some (vi R.1))) R.2 := by
  unfold D_X9_redate at hD
  refine ev_aload_n dX9_redate_0 0 rfl rfl ?_
  refine ev_iconst dX9_redate_1 (mi_c rfl) ?_
  obtain ⟨s1, g, hD⟩ := bd hD
  refine ew_putI 8 0 dX9_redate_2 rfl (Nat.le_of_ble_eq_true rfl) w_1265 in_X9 tyX9_ok nmX9 (Or.inl rfl) rfl g ?_
  refine ev_aload_n dX9_redate_5 0 rfl rfl ?_
  refine ev_iload_n dX9_redate_6 1 rfl rfl ?_
  obtain ⟨_, g0, hD⟩ := bd hD
  obtain ⟨r2, g, hD⟩ := bd hD
  refine ew_callVv (as := [vi x1]) (a := x0) (rest := []) dX9_redate_7 v_X9_isSample w_1593 rfl (Nat.le_of_ble_eq_true rfl) rfl rfl g0 (Nat.le_of_ble_eq_true rfl) (Nat.le_of_ble_eq_true rfl) (ct_X9_isSample g) ?_
  by_cases c : r2.1 = 0
  · rw [if_pos c] at hD
    refine ev_if_eq_t (tgt := 49) dX9_redate_10 (by decide) c ?_
    refine Ev.pick [] rfl ?_
    exact lk_X9_redate_49 hD
  · rw [if_neg c] at hD
    refine ev_if_eq_f 49 dX9_redate_10 (by decide) c ?_
    refine ev_aload_n dX9_redate_13 0 rfl rfl ?_
    refine ev_iload_n dX9_redate_14 2 rfl rfl ?_
    refine ev_iconst dX9_redate_15 (mi_c rfl) ?_
    refine ev_sp dX9_redate_16 rfl ?_
    obtain ⟨r3, g, hD⟩ := bd hD
    refine ew_callSv (as := [vi x2, vi 0, vi 9999]) (rest := [vr x0]) dX9_redate_19 v_X9_within w_1438 rfl (Nat.le_of_ble_eq_true rfl) (Nat.le_of_ble_eq_true rfl) (Nat.le_of_ble_eq_true rfl) (ct_X9_within g) ?_
    by_cases c : r3 = 0
    · rw [if_pos c] at hD
      refine ev_if_eq_t (tgt := 40) dX9_redate_22 (by decide) c ?_
      exact lk_X9_redate_40 hD
    · rw [if_neg c] at hD
      refine ev_if_eq_f 40 dX9_redate_22 (by decide) c ?_
      refine ev_iload_n dX9_redate_25 3 rfl rfl ?_
      refine ev_iconst dX9_redate_26 (mi_c rfl) ?_
      refine ev_sp dX9_redate_27 rfl ?_
      obtain ⟨r4, g, hD⟩ := bd hD
      refine ew_callSv (as := [vi x3, vi 0, vi 999]) (rest := [vr x0]) dX9_redate_30 v_X9_within w_1438 rfl (Nat.le_of_ble_eq_true rfl) (Nat.le_of_ble_eq_true rfl) (Nat.le_of_ble_eq_true rfl) (ct_X9_within g) ?_
      by_cases c : r4 = 0
      · rw [if_pos c] at hD
        refine ev_if_eq_t (tgt := 40) dX9_redate_33 (by decide) c ?_
        exact lk_X9_redate_40 hD
      · rw [if_neg c] at hD
        refine ev_if_eq_f 40 dX9_redate_33 (by decide) c ?_
        refine ev_iconst dX9_redate_36 (mi_c rfl) ?_
        refine ev_goto (tgt := 41) dX9_redate_37 (by decide) ?_
        exact lk_X9_redate_41 hD
theorem ct_X9_redate {G : mG} {x0 : Nat} {x1 : Int} {x2 : Int} {x3 : Int} {σ : mS} {R : (Int × mS)} (hD : D_X9_redate x0 x1 x2 x3 σ = some R) : Ct G M_X9_redate [vr x0, vi x1, vi x2, vi x3] σ (.inl (some (vi R.1))) R.2 := ct_of rfl (by decide +kernel) rfl (Nat.le_of_ble_eq_true rfl) rfl (lk_X9_redate hD)
def D_X9_addsRule (x0 : Nat) (x1 : Int) (x2 : Int) (x3 : Int) (x4 : Int) (x5 : Int) (σ : mS) : Option (Int × mS) :=
  (tgO σ x0 8).bind fun _ =>
  (D_X9_laysBack x0 σ).bind fun r1 =>
  (pB r1 x0 8 28 0).bind fun s2 =>
  (gR s2 x0 8 2).bind fun v3 =>
  (lI s2 v3 2).bind fun v4 =>
  (gR s2 x0 8 2).bind fun v5 =>
  (sI s2 v5 (mw (3 + (mw (5 * v4)))) x1).bind fun s6 =>
  (gR s6 x0 8 2).bind fun v7 =>
  (sI s6 v7 (mw ((mw (3 + (mw (5 * v4)))) + 1)) x2).bind fun s8 =>
  (gR s8 x0 8 2).bind fun v9 =>
  (sI s8 v9 (mw ((mw (3 + (mw (5 * v4)))) + 2)) x3).bind fun s10 =>
  (gR s10 x0 8 2).bind fun v11 =>
  (sI s10 v11 (mw ((mw (3 + (mw (5 * v4)))) + 3)) x4).bind fun s12 =>
  (gR s12 x0 8 2).bind fun v13 =>
  (sI s12 v13 (mw ((mw (3 + (mw (5 * v4)))) + 4)) x5).bind fun s14 =>
  (gR s14 x0 8 2).bind fun v15 =>
  (lI s14 v15 2).bind fun v16 =>
  (sI s14 v15 2 (mw (v16 + 1))).bind fun s17 =>
  (gR s17 x0 8 2).bind fun v18 =>
  (lI s17 v18 2).bind fun v19 =>
  some ((mw (v19 - 1)), s17)
set_option maxRecDepth 100000 in
set_option maxHeartbeats 4000000 in
theorem lk_X9_addsRule {G : mG} {x0 : Nat} {x1 : Int} {x2 : Int} {x3 : Int} {x4 : Int} {x5 : Int} {σ : mS} {R : (Int × mS)} (hD : D_X9_addsRule x0 x1 x2 x3 x4 x5 σ = some R) : Ev G M_X9_addsRule 0 [(0, vr x0), (1, vi x1), (2, vi x2), (3, vi x3), (4, vi x4), (5, vi x5)] [] σ (.inl (some (vi R.1))) R.2 := by
  unfold D_X9_addsRule at hD
  refine ev_aload_n dX9_addsRule_0 0 rfl rfl ?_
  obtain ⟨_, g0, hD⟩ := bd hD
  obtain ⟨r1, g, hD⟩ := bd hD
  refine ew_callV0 (as := []) (a := x0) (rest := []) dX9_addsRule_1 v_X9_laysBack w_1585 rfl (Nat.le_of_ble_eq_true rfl) rfl rfl g0 (Nat.le_of_ble_eq_true rfl) (Nat.le_of_ble_eq_true rfl) (ct_X9_laysBack g) ?_
  refine ev_aload_n dX9_addsRule_4 0 rfl rfl ?_
  refine ev_iconst dX9_addsRule_5 (mi_c rfl) ?_
  obtain ⟨s2, g, hD⟩ := bd hD
  refine ew_putB 8 28 dX9_addsRule_6 rfl (Nat.le_of_ble_eq_true rfl) w_1293 in_X9 tyX9_ok nmX9 (Or.inl rfl) rfl g ?_
  refine ev_iconst dX9_addsRule_9 (mi_c rfl) ?_
  refine ev_iconst dX9_addsRule_10 (mi_c rfl) ?_
  refine ev_aload_n dX9_addsRule_11 0 rfl rfl ?_
  obtain ⟨v3, g, hD⟩ := bd hD
  refine ew_getR 8 2 dX9_addsRule_12 rfl (Nat.le_of_ble_eq_true rfl) w_1267 in_X9 rfl g ?_
  refine ev_iconst dX9_addsRule_15 (mi_c rfl) ?_
  obtain ⟨v4, g, hD⟩ := bd hD
  refine ew_iald dX9_addsRule_16 g ?_
  refine ev_imul dX9_addsRule_17 ?_
  refine ev_iadd dX9_addsRule_18 ?_
  refine ev_istore dX9_addsRule_19 (Nat.le_of_ble_eq_true rfl) rfl ?_
  refine ev_aload_n dX9_addsRule_21 1 rfl rfl ?_
  obtain ⟨v5, g, hD⟩ := bd hD
  refine ew_getR 8 2 dX9_addsRule_22 rfl (Nat.le_of_ble_eq_true rfl) w_1267 in_X9 rfl g ?_
  refine ev_iload dX9_addsRule_25 0 rfl ?_
  refine ev_iload_n dX9_addsRule_27 2 rfl rfl ?_
  obtain ⟨s6, g, hD⟩ := bd hD
  refine ew_iast dX9_addsRule_28 g ?_
  refine ev_aload_n dX9_addsRule_29 1 rfl rfl ?_
  obtain ⟨v7, g, hD⟩ := bd hD
  refine ew_getR 8 2 dX9_addsRule_30 rfl (Nat.le_of_ble_eq_true rfl) w_1267 in_X9 rfl g ?_
  refine ev_iload dX9_addsRule_33 0 rfl ?_
  refine ev_iconst dX9_addsRule_35 (mi_c rfl) ?_
  refine ev_iadd dX9_addsRule_36 ?_
  refine ev_iload_n dX9_addsRule_37 3 rfl rfl ?_
  obtain ⟨s8, g, hD⟩ := bd hD
  refine ew_iast dX9_addsRule_38 g ?_
  refine ev_aload_n dX9_addsRule_39 1 rfl rfl ?_
  obtain ⟨v9, g, hD⟩ := bd hD
  refine ew_getR 8 2 dX9_addsRule_40 rfl (Nat.le_of_ble_eq_true rfl) w_1267 in_X9 rfl g ?_
  refine ev_iload dX9_addsRule_43 0 rfl ?_
  refine ev_iconst dX9_addsRule_45 (mi_c rfl) ?_
  refine ev_iadd dX9_addsRule_46 ?_
  refine ev_iload_n dX9_addsRule_47 4 rfl rfl ?_
  obtain ⟨s10, g, hD⟩ := bd hD
  refine ew_iast dX9_addsRule_48 g ?_
  refine ev_aload_n dX9_addsRule_49 1 rfl rfl ?_
  obtain ⟨v11, g, hD⟩ := bd hD
  refine ew_getR 8 2 dX9_addsRule_50 rfl (Nat.le_of_ble_eq_true rfl) w_1267 in_X9 rfl g ?_
  refine ev_iload dX9_addsRule_53 0 rfl ?_
  refine ev_iconst dX9_addsRule_55 (mi_c rfl) ?_
  refine ev_iadd dX9_addsRule_56 ?_
  refine ev_iload dX9_addsRule_57 5 rfl ?_
  obtain ⟨s12, g, hD⟩ := bd hD
  refine ew_iast dX9_addsRule_59 g ?_
  refine ev_aload_n dX9_addsRule_60 1 rfl rfl ?_
  obtain ⟨v13, g, hD⟩ := bd hD
  refine ew_getR 8 2 dX9_addsRule_61 rfl (Nat.le_of_ble_eq_true rfl) w_1267 in_X9 rfl g ?_
  refine ev_iload dX9_addsRule_64 0 rfl ?_
  refine ev_iconst dX9_addsRule_66 (mi_c rfl) ?_
  refine ev_iadd dX9_addsRule_67 ?_
  refine ev_iload dX9_addsRule_68 6 rfl ?_
  obtain ⟨s14, g, hD⟩ := bd hD
  refine ew_iast dX9_addsRule_70 g ?_
  refine ev_aload_n dX9_addsRule_71 1 rfl rfl ?_
  obtain ⟨v15, g, hD⟩ := bd hD
  refine ew_getR 8 2 dX9_addsRule_72 rfl (Nat.le_of_ble_eq_true rfl) w_1267 in_X9 rfl g ?_
  refine ev_iconst dX9_addsRule_75 (mi_c rfl) ?_
  refine ev_dup2 dX9_addsRule_76 rfl rfl ?_
  obtain ⟨v16, g, hD⟩ := bd hD
  refine ew_iald dX9_addsRule_77 g ?_
  refine ev_iconst dX9_addsRule_78 (mi_c rfl) ?_
  refine ev_iadd dX9_addsRule_79 ?_
  obtain ⟨s17, g, hD⟩ := bd hD
  refine ew_iast dX9_addsRule_80 g ?_
  refine ev_aload_n dX9_addsRule_81 1 rfl rfl ?_
  obtain ⟨v18, g, hD⟩ := bd hD
  refine ew_getR 8 2 dX9_addsRule_82 rfl (Nat.le_of_ble_eq_true rfl) w_1267 in_X9 rfl g ?_
  refine ev_iconst dX9_addsRule_85 (mi_c rfl) ?_
  obtain ⟨v19, g, hD⟩ := bd hD
  refine ew_iald dX9_addsRule_86 g ?_
  refine ev_iconst dX9_addsRule_87 (mi_c rfl) ?_
  refine ev_isub dX9_addsRule_88 ?_
  cases hD
  exact ev_ret (some (vi _)) dX9_addsRule_89 True.intro
theorem ct_X9_addsRule {G : mG} {x0 : Nat} {x1 : Int} {x2 : Int} {x3 : Int} {x4 : Int} {x5 : Int} {σ : mS} {R : (Int × mS)} (hD : D_X9_addsRule x0 x1 x2 x3 x4 x5 σ = some R) : Ct G M_X9_addsRule [vr x0, vi x1, vi x2, vi x3, vi x4, vi x5] σ (.inl (some (vi R.1))) R.2 := ct_of rfl (by decide +kernel) rfl (Nat.le_of_ble_eq_true rfl) rfl (lk_X9_addsRule hD)
def D_X9_before_116 (σ : mS) : Option (Int × mS) :=
  some (0, σ)
set_option maxRecDepth 100000 in
set_option maxHeartbeats 4000000 in
theorem lk_X9_before_116 {G : mG} {σ : mS} {R : (Int × mS)} (hD : D_X9_before_116  σ = some R) : Ev G M_X9_before 116 [] [] σ (.inl (some (vi R.1))) R.2 := by
  unfold D_X9_before_116 at hD
  refine ev_iconst dX9_before_116 (mi_c rfl) ?_
  cases hD
  exact ev_ret (some (vi _)) dX9_before_117 True.intro
def D_X9_before_108 (x0 : Nat) (x1 : Int) (x2 : Int) (x3 : Int) (x4 : Int) (y0 : Int) (y1 : Nat) (σ : mS) : Option (Int × mS) :=
  (tgO σ y1 8).bind fun _ =>
  (D_X9_isFine y1 y0 3 2 σ).bind fun r1 =>
  if r1.1 ≠ 0 then
    (tgO r1.2 x0 8).bind fun _ =>
    (D_X9_addsRule x0 0 x1 x2 x3 x4 r1.2).bind fun r2 =>
    some (r2.1, r2.2)
  else
    D_X9_before_116  r1.2
set_option maxRecDepth 100000 in
set_option maxHeartbeats 4000000 in
theorem lk_X9_before_108 {G : mG} {x0 : Nat} {x1 : Int} {x2 : Int} {x3 : Int} {x4 : Int} {y0 : Int} {y1 : Nat} {σ : mS} {R : (Int × mS)} (hD : D_X9_before_108 x0 x1 x2 x3 x4 y0 y1 σ = some R) : Ev G M_X9_before 108 [(0, vr x0), (1, vi x1), (2, vi x2), (3, vi x3), (4, vi x4)] [vi y0, vr y1] σ (.inl (some (vi R.1))) R.2 := by
  unfold D_X9_before_108 at hD
  refine ev_iconst dX9_before_108 (mi_c rfl) ?_
  refine ev_iconst dX9_before_109 (mi_c rfl) ?_
  obtain ⟨_, g0, hD⟩ := bd hD
  obtain ⟨r1, g, hD⟩ := bd hD
  refine ew_callVv (as := [vi y0, vi 3, vi 2]) (a := y1) (rest := []) dX9_before_110 v_X9_isFine w_1441 rfl (Nat.le_of_ble_eq_true rfl) rfl rfl g0 (Nat.le_of_ble_eq_true rfl) (Nat.le_of_ble_eq_true rfl) (ct_X9_isFine g) ?_
  by_cases c : r1.1 ≠ 0
  · rw [if_pos c] at hD
    refine ev_if_ne_t (tgt := 118) dX9_before_113 (by decide) c ?_
    refine ev_aload_n dX9_before_118 0 rfl rfl ?_
    refine ev_iconst dX9_before_119 (mi_c rfl) ?_
    refine ev_iload_n dX9_before_120 1 rfl rfl ?_
    refine ev_iload_n dX9_before_121 2 rfl rfl ?_
    refine ev_iload_n dX9_before_122 3 rfl rfl ?_
    refine ev_iload dX9_before_123 4 rfl ?_
    obtain ⟨_, g0, hD⟩ := bd hD
    obtain ⟨r2, g, hD⟩ := bd hD
    refine ew_callVv (as := [vi 0, vi x1, vi x2, vi x3, vi x4]) (a := x0) (rest := []) dX9_before_125 v_X9_addsRule w_1605 rfl (Nat.le_of_ble_eq_true rfl) rfl rfl g0 (Nat.le_of_ble_eq_true rfl) (Nat.le_of_ble_eq_true rfl) (ct_X9_addsRule g) ?_
    cases hD
    exact ev_ret (some (vi _)) dX9_before_128 True.intro
  · rw [if_neg c] at hD
    refine ev_if_ne_f 118 dX9_before_113 (by decide) c ?_
    refine Ev.pick [] rfl ?_
    exact lk_X9_before_116 hD
def D_X9_before_83 (x0 : Nat) (x1 : Int) (x2 : Int) (x3 : Int) (x4 : Int) (y0 : Int) (y1 : Nat) (σ : mS) : Option (Int × mS) :=
  (tgO σ y1 8).bind fun _ =>
  (D_X9_isFine y1 y0 2 1 σ).bind fun r1 =>
  if r1.1 = 0 then
    D_X9_before_116  r1.2
  else
    (gR r1.2 x0 8 2).bind fun v2 =>
    (lI r1.2 v2 2).bind fun v3 =>
    if 24 ≤ v3 then
      D_X9_before_108 x0 x1 x2 x3 x4 0 x0 r1.2
    else
      D_X9_before_108 x0 x1 x2 x3 x4 1 x0 r1.2
set_option maxRecDepth 100000 in
set_option maxHeartbeats 4000000 in
theorem lk_X9_before_83 {G : mG} {x0 : Nat} {x1 : Int} {x2 : Int} {x3 : Int} {x4 : Int} {y0 : Int} {y1 : Nat} {σ : mS} {R : (Int × mS)} (hD : D_X9_before_83 x0 x1 x2 x3 x4 y0 y1 σ = some R) : Ev G M_X9_before 83 [(0, vr x0), (1, vi x1), (2, vi x2), (3, vi x3), (4, vi x4)] [vi y0, vr y1] σ (.inl (some (vi R.1))) R.2 := by
  unfold D_X9_before_83 at hD
  refine ev_iconst dX9_before_83 (mi_c rfl) ?_
  refine ev_iconst dX9_before_84 (mi_c rfl) ?_
  obtain ⟨_, g0, hD⟩ := bd hD
  obtain ⟨r1, g, hD⟩ := bd hD
  refine ew_callVv (as := [vi y0, vi 2, vi 1]) (a := y1) (rest := []) dX9_before_85 v_X9_isFine w_1441 rfl (Nat.le_of_ble_eq_true rfl) rfl rfl g0 (Nat.le_of_ble_eq_true rfl) (Nat.le_of_ble_eq_true rfl) (ct_X9_isFine g) ?_
  by_cases c : r1.1 = 0
  · rw [if_pos c] at hD
    refine ev_if_eq_t (tgt := 116) dX9_before_88 (by decide) c ?_
    refine Ev.pick [] rfl ?_
    exact lk_X9_before_116 hD
  · rw [if_neg c] at hD
    refine ev_if_eq_f 116 dX9_before_88 (by decide) c ?_
    refine ev_aload_n dX9_before_91 0 rfl rfl ?_
    refine ev_aload_n dX9_before_92 0 rfl rfl ?_
    obtain ⟨v2, g, hD⟩ := bd hD
    refine ew_getR 8 2 dX9_before_93 rfl (Nat.le_of_ble_eq_true rfl) w_1267 in_X9 rfl g ?_
    refine ev_iconst dX9_before_96 (mi_c rfl) ?_
    obtain ⟨v3, g, hD⟩ := bd hD
    refine ew_iald dX9_before_97 g ?_
    refine ev_bp dX9_before_98 rfl ?_
    by_cases c : 24 ≤ v3
    · rw [if_pos c] at hD
      refine ev_icmp_ge_t (tgt := 107) dX9_before_100 (by decide) c ?_
      refine ev_iconst dX9_before_107 (mi_c rfl) ?_
      exact lk_X9_before_108 hD
    · rw [if_neg c] at hD
      refine ev_icmp_ge_f 107 dX9_before_100 (by decide) c ?_
      refine ev_iconst dX9_before_103 (mi_c rfl) ?_
      refine ev_goto (tgt := 108) dX9_before_104 (by decide) ?_
      exact lk_X9_before_108 hD
def D_X9_before_82 (x0 : Nat) (x1 : Int) (x2 : Int) (x3 : Int) (x4 : Int) (y0 : Nat) (σ : mS) : Option (Int × mS) :=
  D_X9_before_83 x0 x1 x2 x3 x4 0 y0 σ
set_option maxRecDepth 100000 in
set_option maxHeartbeats 4000000 in
theorem lk_X9_before_82 {G : mG} {x0 : Nat} {x1 : Int} {x2 : Int} {x3 : Int} {x4 : Int} {y0 : Nat} {σ : mS} {R : (Int × mS)} (hD : D_X9_before_82 x0 x1 x2 x3 x4 y0 σ = some R) : Ev G M_X9_before 82 [(0, vr x0), (1, vi x1), (2, vi x2), (3, vi x3), (4, vi x4)] [vr y0] σ (.inl (some (vi R.1))) R.2 := by
  unfold D_X9_before_82 at hD
  refine ev_iconst dX9_before_82 (mi_c rfl) ?_
  exact lk_X9_before_83 hD
def D_X9_before_39 (x0 : Nat) (x1 : Int) (x2 : Int) (x3 : Int) (x4 : Int) (y0 : Int) (y1 : Nat) (σ : mS) : Option (Int × mS) :=
  (tgO σ y1 8).bind fun _ =>
  (D_X9_isFine y1 y0 1 0 σ).bind fun r1 =>
  if r1.1 ≠ 0 then
    if x1 = x2 then
      D_X9_before_82 x0 x1 x2 x3 x4 x0 r1.2
    else
      (D_X9_within x3 0 999 r1.2).bind fun r2 =>
      if r2 = 0 then
        D_X9_before_82 x0 x1 x2 x3 x4 x0 r1.2
      else
        (D_X9_within x4 x3 999 r1.2).bind fun r3 =>
        if r3 = 0 then
          D_X9_before_82 x0 x1 x2 x3 x4 x0 r1.2
        else
          D_X9_before_83 x0 x1 x2 x3 x4 1 x0 r1.2
  else
    some (0, r1.2)
set_option maxRecDepth 100000 in
set_option maxHeartbeats 4000000 in
theorem lk_X9_before_39 {G : mG} {x0 : Nat} {x1 : Int} {x2 : Int} {x3 : Int} {x4 : Int} {y0 : Int} {y1 : Nat} {σ : mS} {R : (Int × mS)} (hD : D_X9_before_39 x0 x1 x2 x3 x4 y0 y1 σ = some R) : Ev G M_X9_before 39 [(0, vr x0), (1, vi x1), (2, vi x2), (3, vi x3), (4, vi x4)] [vi y0, vr y1] σ (.inl (some (vi R.1))) R.2 := by
  unfold D_X9_before_39 at hD
  refine ev_iconst dX9_before_39 (mi_c rfl) ?_
  refine ev_iconst dX9_before_40 (mi_c rfl) ?_
  obtain ⟨_, g0, hD⟩ := bd hD
  obtain ⟨r1, g, hD⟩ := bd hD
  refine ew_callVv (as := [vi y0, vi 1, vi 0]) (a := y1) (rest := []) dX9_before_41 v_X9_isFine w_1441 rfl (Nat.le_of_ble_eq_true rfl) rfl rfl g0 (Nat.le_of_ble_eq_true rfl) (Nat.le_of_ble_eq_true rfl) (ct_X9_isFine g) ?_
  by_cases c : r1.1 ≠ 0
  · rw [if_pos c] at hD
    refine ev_if_ne_t (tgt := 49) dX9_before_44 (by decide) c ?_
    refine ev_aload_n dX9_before_49 0 rfl rfl ?_
    refine ev_iload_n dX9_before_50 1 rfl rfl ?_
    refine ev_iload_n dX9_before_51 2 rfl rfl ?_
    by_cases c : x1 = x2
    · rw [if_pos c] at hD
      refine ev_icmp_eq_t (tgt := 82) dX9_before_52 (by decide) c ?_
      exact lk_X9_before_82 hD
    · rw [if_neg c] at hD
      refine ev_icmp_eq_f 82 dX9_before_52 (by decide) c ?_
      refine ev_iload_n dX9_before_55 3 rfl rfl ?_
      refine ev_iconst dX9_before_56 (mi_c rfl) ?_
      refine ev_sp dX9_before_57 rfl ?_
      obtain ⟨r2, g, hD⟩ := bd hD
      refine ew_callSv (as := [vi x3, vi 0, vi 999]) (rest := [vr x0]) dX9_before_60 v_X9_within w_1438 rfl (Nat.le_of_ble_eq_true rfl) (Nat.le_of_ble_eq_true rfl) (Nat.le_of_ble_eq_true rfl) (ct_X9_within g) ?_
      by_cases c : r2 = 0
      · rw [if_pos c] at hD
        refine ev_if_eq_t (tgt := 82) dX9_before_63 (by decide) c ?_
        exact lk_X9_before_82 hD
      · rw [if_neg c] at hD
        refine ev_if_eq_f 82 dX9_before_63 (by decide) c ?_
        refine ev_iload dX9_before_66 4 rfl ?_
        refine ev_iload_n dX9_before_68 3 rfl rfl ?_
        refine ev_sp dX9_before_69 rfl ?_
        obtain ⟨r3, g, hD⟩ := bd hD
        refine ew_callSv (as := [vi x4, vi x3, vi 999]) (rest := [vr x0]) dX9_before_72 v_X9_within w_1438 rfl (Nat.le_of_ble_eq_true rfl) (Nat.le_of_ble_eq_true rfl) (Nat.le_of_ble_eq_true rfl) (ct_X9_within g) ?_
        by_cases c : r3 = 0
        · rw [if_pos c] at hD
          refine ev_if_eq_t (tgt := 82) dX9_before_75 (by decide) c ?_
          exact lk_X9_before_82 hD
        · rw [if_neg c] at hD
          refine ev_if_eq_f 82 dX9_before_75 (by decide) c ?_
          refine ev_iconst dX9_before_78 (mi_c rfl) ?_
          refine ev_goto (tgt := 83) dX9_before_79 (by decide) ?_
          exact lk_X9_before_83 hD
  · rw [if_neg c] at hD
    refine ev_if_ne_f 49 dX9_before_44 (by decide) c ?_
    refine ev_iconst dX9_before_47 (mi_c rfl) ?_
    cases hD
    exact ev_ret (some (vi _)) dX9_before_48 True.intro
def D_X9_before_38 (x0 : Nat) (x1 : Int) (x2 : Int) (x3 : Int) (x4 : Int) (y0 : Nat) (σ : mS) : Option (Int × mS) :=
  D_X9_before_39 x0 x1 x2 x3 x4 0 y0 σ
set_option maxRecDepth 100000 in
set_option maxHeartbeats 4000000 in
theorem lk_X9_before_38 {G : mG} {x0 : Nat} {x1 : Int} {x2 : Int} {x3 : Int} {x4 : Int} {y0 : Nat} {σ : mS} {R : (Int × mS)} (hD : D_X9_before_38 x0 x1 x2 x3 x4 y0 σ = some R) : Ev G M_X9_before 38 [(0, vr x0), (1, vi x1), (2, vi x2), (3, vi x3), (4, vi x4)] [vr y0] σ (.inl (some (vi R.1))) R.2 := by
  unfold D_X9_before_38 at hD
  refine ev_iconst dX9_before_38 (mi_c rfl) ?_
  exact lk_X9_before_39 hD
def D_X9_before (x0 : Nat) (x1 : Int) (x2 : Int) (x3 : Int) (x4 : Int) (σ : mS) : Option (Int × mS) :=
  (pI σ x0 8 0 0).bind fun s1 =>
  (gI s1 x0 8 6).bind fun v2 =>
  (D_X9_within x1 0 (mw (v2 - 1)) s1).bind fun r3 =>
  if r3 = 0 then
    D_X9_before_38 x0 x1 x2 x3 x4 x0 s1
  else
    (gI s1 x0 8 6).bind fun v4 =>
    (D_X9_within x2 0 (mw (v4 - 1)) s1).bind fun r5 =>
    if r5 = 0 then
      D_X9_before_38 x0 x1 x2 x3 x4 x0 s1
    else
      D_X9_before_39 x0 x1 x2 x3 x4 1 x0 s1
set_option maxRecDepth 100000 in
set_option maxHeartbeats 4000000 in
theorem lk_X9_before {G : mG} {x0 : Nat} {x1 : Int} {x2 : Int} {x3 : Int} {x4 : Int} {σ : mS} {R : (Int × mS)} (hD : D_X9_before x0 x1 x2 x3 x4 σ = some R) : Ev G M_X9_before 0 [(0, vr x0), (1, vi x1), (2, vi x2), (3, vi x3), (4, vi x4)] [] σ (.inl (some (vi R.1))) R.2 := by
  unfold D_X9_before at hD
  refine ev_aload_n dX9_before_0 0 rfl rfl ?_
  refine ev_iconst dX9_before_1 (mi_c rfl) ?_
  obtain ⟨s1, g, hD⟩ := bd hD
  refine ew_putI 8 0 dX9_before_2 rfl (Nat.le_of_ble_eq_true rfl) w_1265 in_X9 tyX9_ok nmX9 (Or.inl rfl) rfl g ?_
  refine ev_aload_n dX9_before_5 0 rfl rfl ?_
  refine ev_iload_n dX9_before_6 1 rfl rfl ?_
  refine ev_iconst dX9_before_7 (mi_c rfl) ?_
  refine ev_aload_n dX9_before_8 0 rfl rfl ?_
  obtain ⟨v2, g, hD⟩ := bd hD
  refine ew_getI 8 6 dX9_before_9 rfl (Nat.le_of_ble_eq_true rfl) w_1271 in_X9 rfl g ?_
  refine ev_iconst dX9_before_12 (mi_c rfl) ?_
  refine ev_isub dX9_before_13 ?_
  obtain ⟨r3, g, hD⟩ := bd hD
  refine ew_callSv (as := [vi x1, vi 0, vi (mw (v2 - 1))]) (rest := [vr x0]) dX9_before_14 v_X9_within w_1438 rfl (Nat.le_of_ble_eq_true rfl) (Nat.le_of_ble_eq_true rfl) (Nat.le_of_ble_eq_true rfl) (ct_X9_within g) ?_
  by_cases c : r3 = 0
  · rw [if_pos c] at hD
    refine ev_if_eq_t (tgt := 38) dX9_before_17 (by decide) c ?_
    exact lk_X9_before_38 hD
  · rw [if_neg c] at hD
    refine ev_if_eq_f 38 dX9_before_17 (by decide) c ?_
    refine ev_iload_n dX9_before_20 2 rfl rfl ?_
    refine ev_iconst dX9_before_21 (mi_c rfl) ?_
    refine ev_aload_n dX9_before_22 0 rfl rfl ?_
    obtain ⟨v4, g, hD⟩ := bd hD
    refine ew_getI 8 6 dX9_before_23 rfl (Nat.le_of_ble_eq_true rfl) w_1271 in_X9 rfl g ?_
    refine ev_iconst dX9_before_26 (mi_c rfl) ?_
    refine ev_isub dX9_before_27 ?_
    obtain ⟨r5, g, hD⟩ := bd hD
    refine ew_callSv (as := [vi x2, vi 0, vi (mw (v4 - 1))]) (rest := [vr x0]) dX9_before_28 v_X9_within w_1438 rfl (Nat.le_of_ble_eq_true rfl) (Nat.le_of_ble_eq_true rfl) (Nat.le_of_ble_eq_true rfl) (ct_X9_within g) ?_
    by_cases c : r5 = 0
    · rw [if_pos c] at hD
      refine ev_if_eq_t (tgt := 38) dX9_before_31 (by decide) c ?_
      exact lk_X9_before_38 hD
    · rw [if_neg c] at hD
      refine ev_if_eq_f 38 dX9_before_31 (by decide) c ?_
      refine ev_iconst dX9_before_34 (mi_c rfl) ?_
      refine ev_goto (tgt := 39) dX9_before_35 (by decide) ?_
      exact lk_X9_before_39 hD
theorem ct_X9_before {G : mG} {x0 : Nat} {x1 : Int} {x2 : Int} {x3 : Int} {x4 : Int} {σ : mS} {R : (Int × mS)} (hD : D_X9_before x0 x1 x2 x3 x4 σ = some R) : Ct G M_X9_before [vr x0, vi x1, vi x2, vi x3, vi x4] σ (.inl (some (vi R.1))) R.2 := ct_of rfl (by decide +kernel) rfl (Nat.le_of_ble_eq_true rfl) rfl (lk_X9_before hD)
def D_X9_bounds_72 (σ : mS) : Option (Int × mS) :=
  some (0, σ)
set_option maxRecDepth 100000 in
set_option maxHeartbeats 4000000 in
theorem lk_X9_bounds_72 {G : mG} {σ : mS} {R : (Int × mS)} (hD : D_X9_bounds_72  σ = some R) : Ev G M_X9_bounds 72 [] [] σ (.inl (some (vi R.1))) R.2 := by
  unfold D_X9_bounds_72 at hD
  refine ev_iconst dX9_bounds_72 (mi_c rfl) ?_
  cases hD
  exact ev_ret (some (vi _)) dX9_bounds_73 True.intro
def D_X9_bounds_64 (x0 : Nat) (x1 : Int) (x2 : Int) (x3 : Int) (y0 : Int) (y1 : Nat) (σ : mS) : Option (Int × mS) :=
  (tgO σ y1 8).bind fun _ =>
  (D_X9_isFine y1 y0 3 2 σ).bind fun r1 =>
  if r1.1 ≠ 0 then
    (tgO r1.2 x0 8).bind fun _ =>
    (D_X9_addsRule x0 x2 x1 ((-1)) x3 ((-1)) r1.2).bind fun r2 =>
    some (r2.1, r2.2)
  else
    D_X9_bounds_72  r1.2
set_option maxRecDepth 100000 in
set_option maxHeartbeats 4000000 in
theorem lk_X9_bounds_64 {G : mG} {x0 : Nat} {x1 : Int} {x2 : Int} {x3 : Int} {y0 : Int} {y1 : Nat} {σ : mS} {R : (Int × mS)} (hD : D_X9_bounds_64 x0 x1 x2 x3 y0 y1 σ = some R) : Ev G M_X9_bounds 64 [(0, vr x0), (1, vi x1), (2, vi x2), (3, vi x3)] [vi y0, vr y1] σ (.inl (some (vi R.1))) R.2 := by
  unfold D_X9_bounds_64 at hD
  refine ev_iconst dX9_bounds_64 (mi_c rfl) ?_
  refine ev_iconst dX9_bounds_65 (mi_c rfl) ?_
  obtain ⟨_, g0, hD⟩ := bd hD
  obtain ⟨r1, g, hD⟩ := bd hD
  refine ew_callVv (as := [vi y0, vi 3, vi 2]) (a := y1) (rest := []) dX9_bounds_66 v_X9_isFine w_1441 rfl (Nat.le_of_ble_eq_true rfl) rfl rfl g0 (Nat.le_of_ble_eq_true rfl) (Nat.le_of_ble_eq_true rfl) (ct_X9_isFine g) ?_
  by_cases c : r1.1 ≠ 0
  · rw [if_pos c] at hD
    refine ev_if_ne_t (tgt := 74) dX9_bounds_69 (by decide) c ?_
    refine ev_aload_n dX9_bounds_74 0 rfl rfl ?_
    refine ev_iload_n dX9_bounds_75 2 rfl rfl ?_
    refine ev_iload_n dX9_bounds_76 1 rfl rfl ?_
    refine ev_iconst dX9_bounds_77 (mi_c rfl) ?_
    refine ev_iload_n dX9_bounds_78 3 rfl rfl ?_
    refine ev_iconst dX9_bounds_79 (mi_c rfl) ?_
    obtain ⟨_, g0, hD⟩ := bd hD
    obtain ⟨r2, g, hD⟩ := bd hD
    refine ew_callVv (as := [vi x2, vi x1, vi ((-1)), vi x3, vi ((-1))]) (a := x0) (rest := []) dX9_bounds_80 v_X9_addsRule w_1605 rfl (Nat.le_of_ble_eq_true rfl) rfl rfl g0 (Nat.le_of_ble_eq_true rfl) (Nat.le_of_ble_eq_true rfl) (ct_X9_addsRule g) ?_
    cases hD
    exact ev_ret (some (vi _)) dX9_bounds_83 True.intro
  · rw [if_neg c] at hD
    refine ev_if_ne_f 74 dX9_bounds_69 (by decide) c ?_
    refine Ev.pick [] rfl ?_
    exact lk_X9_bounds_72 hD
def D_X9_bounds_39 (x0 : Nat) (x1 : Int) (x2 : Int) (x3 : Int) (y0 : Int) (y1 : Nat) (σ : mS) : Option (Int × mS) :=
  (tgO σ y1 8).bind fun _ =>
  (D_X9_isFine y1 y0 2 1 σ).bind fun r1 =>
  if r1.1 = 0 then
    D_X9_bounds_72  r1.2
  else
    (gR r1.2 x0 8 2).bind fun v2 =>
    (lI r1.2 v2 2).bind fun v3 =>
    if 24 ≤ v3 then
      D_X9_bounds_64 x0 x1 x2 x3 0 x0 r1.2
    else
      D_X9_bounds_64 x0 x1 x2 x3 1 x0 r1.2
set_option maxRecDepth 100000 in
set_option maxHeartbeats 4000000 in
theorem lk_X9_bounds_39 {G : mG} {x0 : Nat} {x1 : Int} {x2 : Int} {x3 : Int} {y0 : Int} {y1 : Nat} {σ : mS} {R : (Int × mS)} (hD : D_X9_bounds_39 x0 x1 x2 x3 y0 y1 σ = some R) : Ev G M_X9_bounds 39 [(0, vr x0), (1, vi x1), (2, vi x2), (3, vi x3)] [vi y0, vr y1] σ (.inl (some (vi R.1))) R.2 := by
  unfold D_X9_bounds_39 at hD
  refine ev_iconst dX9_bounds_39 (mi_c rfl) ?_
  refine ev_iconst dX9_bounds_40 (mi_c rfl) ?_
  obtain ⟨_, g0, hD⟩ := bd hD
  obtain ⟨r1, g, hD⟩ := bd hD
  refine ew_callVv (as := [vi y0, vi 2, vi 1]) (a := y1) (rest := []) dX9_bounds_41 v_X9_isFine w_1441 rfl (Nat.le_of_ble_eq_true rfl) rfl rfl g0 (Nat.le_of_ble_eq_true rfl) (Nat.le_of_ble_eq_true rfl) (ct_X9_isFine g) ?_
  by_cases c : r1.1 = 0
  · rw [if_pos c] at hD
    refine ev_if_eq_t (tgt := 72) dX9_bounds_44 (by decide) c ?_
    refine Ev.pick [] rfl ?_
    exact lk_X9_bounds_72 hD
  · rw [if_neg c] at hD
    refine ev_if_eq_f 72 dX9_bounds_44 (by decide) c ?_
    refine ev_aload_n dX9_bounds_47 0 rfl rfl ?_
    refine ev_aload_n dX9_bounds_48 0 rfl rfl ?_
    obtain ⟨v2, g, hD⟩ := bd hD
    refine ew_getR 8 2 dX9_bounds_49 rfl (Nat.le_of_ble_eq_true rfl) w_1267 in_X9 rfl g ?_
    refine ev_iconst dX9_bounds_52 (mi_c rfl) ?_
    obtain ⟨v3, g, hD⟩ := bd hD
    refine ew_iald dX9_bounds_53 g ?_
    refine ev_bp dX9_bounds_54 rfl ?_
    by_cases c : 24 ≤ v3
    · rw [if_pos c] at hD
      refine ev_icmp_ge_t (tgt := 63) dX9_bounds_56 (by decide) c ?_
      refine ev_iconst dX9_bounds_63 (mi_c rfl) ?_
      exact lk_X9_bounds_64 hD
    · rw [if_neg c] at hD
      refine ev_icmp_ge_f 63 dX9_bounds_56 (by decide) c ?_
      refine ev_iconst dX9_bounds_59 (mi_c rfl) ?_
      refine ev_goto (tgt := 64) dX9_bounds_60 (by decide) ?_
      exact lk_X9_bounds_64 hD
def D_X9_bounds_38 (x0 : Nat) (x1 : Int) (x2 : Int) (x3 : Int) (y0 : Nat) (σ : mS) : Option (Int × mS) :=
  D_X9_bounds_39 x0 x1 x2 x3 0 y0 σ
set_option maxRecDepth 100000 in
set_option maxHeartbeats 4000000 in
theorem lk_X9_bounds_38 {G : mG} {x0 : Nat} {x1 : Int} {x2 : Int} {x3 : Int} {y0 : Nat} {σ : mS} {R : (Int × mS)} (hD : D_X9_bounds_38 x0 x1 x2 x3 y0 σ = some R) : Ev G M_X9_bounds 38 [(0, vr x0), (1, vi x1), (2, vi x2), (3, vi x3)] [vr y0] σ (.inl (some (vi R.1))) R.2 := by
  unfold D_X9_bounds_38 at hD
  refine ev_iconst dX9_bounds_38 (mi_c rfl) ?_
  exact lk_X9_bounds_39 hD
def D_X9_bounds (x0 : Nat) (x1 : Int) (x2 : Int) (x3 : Int) (σ : mS) : Option (Int × mS) :=
  (pI σ x0 8 0 0).bind fun s1 =>
  (tgO s1 x0 8).bind fun _ =>
  (D_X9_isSample x0 x1 s1).bind fun r2 =>
  if r2.1 = 0 then
    D_X9_bounds_72  r2.2
  else
    (D_X9_within x2 2 3 r2.2).bind fun r3 =>
    if r3 = 0 then
      D_X9_bounds_38 x0 x1 x2 x3 x0 r2.2
    else
      (D_X9_within x3 0 999 r2.2).bind fun r4 =>
      if r4 = 0 then
        D_X9_bounds_38 x0 x1 x2 x3 x0 r2.2
      else
        D_X9_bounds_39 x0 x1 x2 x3 1 x0 r2.2
set_option maxRecDepth 100000 in
set_option maxHeartbeats 4000000 in
theorem lk_X9_bounds {G : mG} {x0 : Nat} {x1 : Int} {x2 : Int} {x3 : Int} {σ : mS} {R : (Int × mS)} (hD : D_X9_bounds x0 x1 x2 x3 σ = some R) : Ev G M_X9_bounds 0 [(0, vr x0), (1, vi x1), (2, vi x2), (3, vi x3)] [] σ (.inl (some (vi R.1))) R.2 := by
  unfold D_X9_bounds at hD
  refine ev_aload_n dX9_bounds_0 0 rfl rfl ?_
  refine ev_iconst dX9_bounds_1 (mi_c rfl) ?_
  obtain ⟨s1, g, hD⟩ := bd hD
  refine ew_putI 8 0 dX9_bounds_2 rfl (Nat.le_of_ble_eq_true rfl) w_1265 in_X9 tyX9_ok nmX9 (Or.inl rfl) rfl g ?_
  refine ev_aload_n dX9_bounds_5 0 rfl rfl ?_
  refine ev_iload_n dX9_bounds_6 1 rfl rfl ?_
  obtain ⟨_, g0, hD⟩ := bd hD
  obtain ⟨r2, g, hD⟩ := bd hD
  refine ew_callVv (as := [vi x1]) (a := x0) (rest := []) dX9_bounds_7 v_X9_isSample w_1593 rfl (Nat.le_of_ble_eq_true rfl) rfl rfl g0 (Nat.le_of_ble_eq_true rfl) (Nat.le_of_ble_eq_true rfl) (ct_X9_isSample g) ?_
  by_cases c : r2.1 = 0
  · rw [if_pos c] at hD
    refine ev_if_eq_t (tgt := 72) dX9_bounds_10 (by decide) c ?_
    refine Ev.pick [] rfl ?_
    exact lk_X9_bounds_72 hD
  · rw [if_neg c] at hD
    refine ev_if_eq_f 72 dX9_bounds_10 (by decide) c ?_
    refine ev_aload_n dX9_bounds_13 0 rfl rfl ?_
    refine ev_iload_n dX9_bounds_14 2 rfl rfl ?_
    refine ev_iconst dX9_bounds_15 (mi_c rfl) ?_
    refine ev_iconst dX9_bounds_16 (mi_c rfl) ?_
    obtain ⟨r3, g, hD⟩ := bd hD
    refine ew_callSv (as := [vi x2, vi 2, vi 3]) (rest := [vr x0]) dX9_bounds_17 v_X9_within w_1438 rfl (Nat.le_of_ble_eq_true rfl) (Nat.le_of_ble_eq_true rfl) (Nat.le_of_ble_eq_true rfl) (ct_X9_within g) ?_
    by_cases c : r3 = 0
    · rw [if_pos c] at hD
      refine ev_if_eq_t (tgt := 38) dX9_bounds_20 (by decide) c ?_
      exact lk_X9_bounds_38 hD
    · rw [if_neg c] at hD
      refine ev_if_eq_f 38 dX9_bounds_20 (by decide) c ?_
      refine ev_iload_n dX9_bounds_23 3 rfl rfl ?_
      refine ev_iconst dX9_bounds_24 (mi_c rfl) ?_
      refine ev_sp dX9_bounds_25 rfl ?_
      obtain ⟨r4, g, hD⟩ := bd hD
      refine ew_callSv (as := [vi x3, vi 0, vi 999]) (rest := [vr x0]) dX9_bounds_28 v_X9_within w_1438 rfl (Nat.le_of_ble_eq_true rfl) (Nat.le_of_ble_eq_true rfl) (Nat.le_of_ble_eq_true rfl) (ct_X9_within g) ?_
      by_cases c : r4 = 0
      · rw [if_pos c] at hD
        refine ev_if_eq_t (tgt := 38) dX9_bounds_31 (by decide) c ?_
        exact lk_X9_bounds_38 hD
      · rw [if_neg c] at hD
        refine ev_if_eq_f 38 dX9_bounds_31 (by decide) c ?_
        refine ev_iconst dX9_bounds_34 (mi_c rfl) ?_
        refine ev_goto (tgt := 39) dX9_bounds_35 (by decide) ?_
        exact lk_X9_bounds_39 hD
theorem ct_X9_bounds {G : mG} {x0 : Nat} {x1 : Int} {x2 : Int} {x3 : Int} {σ : mS} {R : (Int × mS)} (hD : D_X9_bounds x0 x1 x2 x3 σ = some R) : Ct G M_X9_bounds [vr x0, vi x1, vi x2, vi x3] σ (.inl (some (vi R.1))) R.2 := ct_of rfl (by decide +kernel) rfl (Nat.le_of_ble_eq_true rfl) rfl (lk_X9_bounds hD)
def D_X9_drop_41 : Nat → Nat → Int → mS → Option mS
  | 0, _, _, _ => none
  | f + 1, x0, x3, σ =>
    (gR σ x0 8 2).bind fun v1 =>
    (lI σ v1 2).bind fun v2 =>
    if (mw (3 + (mw (5 * (mw (v2 - 1)))))) ≤ x3 then
      some σ
    else
      (gR σ x0 8 2).bind fun v3 =>
      (gR σ x0 8 2).bind fun v4 =>
      (lI σ v4 (mw (x3 + 5))).bind fun v5 =>
      (sI σ v3 x3 v5).bind fun s6 =>
      (D_X9_drop_41 f) x0 (mw (x3 + 1)) s6
set_option maxRecDepth 100000 in
set_option maxHeartbeats 4000000 in
theorem lk_X9_drop_41 {G : mG} {x2 : Int} (f : Nat) : ∀ {x0 : Nat} {x3 : Int} {σ : mS} {R : mS}, D_X9_drop_41 f x0 x3 σ = some R → ∀ {r : mX} {τ : mS}, Ev G M_X9_drop 77 [(0, vr x0), (2, vi x2)] [] R r τ → Ev G M_X9_drop 41 [(0, vr x0), (2, vi x2), (3, vi x3)] [] σ r τ := by
  induction f with
  | zero =>
    intros
    rename_i hD _ _ _
    cases hD
  | succ f ih =>
    intro x0 x3 σ R hD r τ hk
    have hrec := @ih
    rw [D_X9_drop_41] at hD
    refine ev_iload_n dX9_drop_41 2 rfl rfl ?_
    refine ev_iconst dX9_drop_42 (mi_c rfl) ?_
    refine ev_iconst dX9_drop_43 (mi_c rfl) ?_
    refine ev_aload_n dX9_drop_44 0 rfl rfl ?_
    obtain ⟨v1, g, hD⟩ := bd hD
    refine ew_getR 8 2 dX9_drop_45 rfl (Nat.le_of_ble_eq_true rfl) w_1267 in_X9 rfl g ?_
    refine ev_iconst dX9_drop_48 (mi_c rfl) ?_
    obtain ⟨v2, g, hD⟩ := bd hD
    refine ew_iald dX9_drop_49 g ?_
    refine ev_iconst dX9_drop_50 (mi_c rfl) ?_
    refine ev_isub dX9_drop_51 ?_
    refine ev_imul dX9_drop_52 ?_
    refine ev_iadd dX9_drop_53 ?_
    by_cases c : (mw (3 + (mw (5 * (mw (v2 - 1)))))) ≤ x3
    · rw [if_pos c] at hD
      refine ev_icmp_ge_t (tgt := 77) dX9_drop_54 (by decide) c ?_
      cases hD
      refine Ev.pick [0, 1] rfl ?_
      exact hk
    · rw [if_neg c] at hD
      refine ev_icmp_ge_f 77 dX9_drop_54 (by decide) c ?_
      refine ev_aload_n dX9_drop_57 0 rfl rfl ?_
      obtain ⟨v3, g, hD⟩ := bd hD
      refine ew_getR 8 2 dX9_drop_58 rfl (Nat.le_of_ble_eq_true rfl) w_1267 in_X9 rfl g ?_
      refine ev_iload_n dX9_drop_61 2 rfl rfl ?_
      refine ev_aload_n dX9_drop_62 0 rfl rfl ?_
      obtain ⟨v4, g, hD⟩ := bd hD
      refine ew_getR 8 2 dX9_drop_63 rfl (Nat.le_of_ble_eq_true rfl) w_1267 in_X9 rfl g ?_
      refine ev_iload_n dX9_drop_66 2 rfl rfl ?_
      refine ev_iconst dX9_drop_67 (mi_c rfl) ?_
      refine ev_iadd dX9_drop_68 ?_
      obtain ⟨v5, g, hD⟩ := bd hD
      refine ew_iald dX9_drop_69 g ?_
      obtain ⟨s6, g, hD⟩ := bd hD
      refine ew_iast dX9_drop_70 g ?_
      refine ev_iinc dX9_drop_71 2 rfl (Nat.le_of_ble_eq_true rfl) rfl ?_
      refine ev_goto (tgt := 41) dX9_drop_74 (by decide) ?_
      refine Ev.pick [1, 2, 0] rfl ?_
      exact hrec hD hk
def D_X9_drop (x0 : Nat) (x1 : Int) (σ : mS) : Option (Int × mS) :=
  (pI σ x0 8 0 0).bind fun s1 =>
  (tgO s1 x0 8).bind fun _ =>
  (D_X9_isRule x0 x1 s1).bind fun r2 =>
  if r2.1 ≠ 0 then
    (tgO r2.2 x0 8).bind fun _ =>
    (D_X9_lays x0 r2.2).bind fun r3 =>
    (gR r3 x0 8 25).bind fun v4 =>
    (lI r3 v4 x1).bind fun v5 =>
    (tgO r3 x0 8).bind fun _ =>
    (D_X9_laysBack x0 r3).bind fun r6 =>
    (pB r6 x0 8 28 0).bind fun s7 =>
    (D_X9_drop_41 mFU x0 (mw (3 + (mw (5 * x1)))) s7).bind fun r8 =>
    (gR r8 x0 8 2).bind fun v9 =>
    (lI r8 v9 2).bind fun v10 =>
    (sI r8 v9 2 (mw (v10 - 1))).bind fun s11 =>
    some (v5, s11)
  else
    some (0, r2.2)
set_option maxRecDepth 100000 in
set_option maxHeartbeats 4000000 in
theorem lk_X9_drop {G : mG} {x0 : Nat} {x1 : Int} {σ : mS} {R : (Int × mS)} (hD : D_X9_drop x0 x1 σ = some R) : Ev G M_X9_drop 0 [(0, vr x0), (1, vi x1)] [] σ (.inl (some (vi R.1))) R.2 := by
  unfold D_X9_drop at hD
  refine ev_aload_n dX9_drop_0 0 rfl rfl ?_
  refine ev_iconst dX9_drop_1 (mi_c rfl) ?_
  obtain ⟨s1, g, hD⟩ := bd hD
  refine ew_putI 8 0 dX9_drop_2 rfl (Nat.le_of_ble_eq_true rfl) w_1265 in_X9 tyX9_ok nmX9 (Or.inl rfl) rfl g ?_
  refine ev_aload_n dX9_drop_5 0 rfl rfl ?_
  refine ev_iload_n dX9_drop_6 1 rfl rfl ?_
  obtain ⟨_, g0, hD⟩ := bd hD
  obtain ⟨r2, g, hD⟩ := bd hD
  refine ew_callVv (as := [vi x1]) (a := x0) (rest := []) dX9_drop_7 v_X9_isRule w_1617 rfl (Nat.le_of_ble_eq_true rfl) rfl rfl g0 (Nat.le_of_ble_eq_true rfl) (Nat.le_of_ble_eq_true rfl) (ct_X9_isRule g) ?_
  by_cases c : r2.1 ≠ 0
  · rw [if_pos c] at hD
    refine ev_if_ne_t (tgt := 15) dX9_drop_10 (by decide) c ?_
    refine ev_aload_n dX9_drop_15 0 rfl rfl ?_
    obtain ⟨_, g0, hD⟩ := bd hD
    obtain ⟨r3, g, hD⟩ := bd hD
    refine ew_callV0 (as := []) (a := x0) (rest := []) dX9_drop_16 v_X9_lays w_1621 rfl (Nat.le_of_ble_eq_true rfl) rfl rfl g0 (Nat.le_of_ble_eq_true rfl) (Nat.le_of_ble_eq_true rfl) (ct_X9_lays g) ?_
    refine ev_aload_n dX9_drop_19 0 rfl rfl ?_
    obtain ⟨v4, g, hD⟩ := bd hD
    refine ew_getR 8 25 dX9_drop_20 rfl (Nat.le_of_ble_eq_true rfl) w_1290 in_X9 rfl g ?_
    refine ev_iload_n dX9_drop_23 1 rfl rfl ?_
    obtain ⟨v5, g, hD⟩ := bd hD
    refine ew_iald dX9_drop_24 g ?_
    refine ev_istore_n dX9_drop_25 rfl (Nat.le_of_ble_eq_true rfl) rfl ?_
    refine ev_aload_n dX9_drop_26 1 rfl rfl ?_
    obtain ⟨_, g0, hD⟩ := bd hD
    obtain ⟨r6, g, hD⟩ := bd hD
    refine ew_callV0 (as := []) (a := x0) (rest := []) dX9_drop_27 v_X9_laysBack w_1585 rfl (Nat.le_of_ble_eq_true rfl) rfl rfl g0 (Nat.le_of_ble_eq_true rfl) (Nat.le_of_ble_eq_true rfl) (ct_X9_laysBack g) ?_
    refine ev_aload_n dX9_drop_30 1 rfl rfl ?_
    refine ev_iconst dX9_drop_31 (mi_c rfl) ?_
    obtain ⟨s7, g, hD⟩ := bd hD
    refine ew_putB 8 28 dX9_drop_32 rfl (Nat.le_of_ble_eq_true rfl) w_1293 in_X9 tyX9_ok nmX9 (Or.inl rfl) rfl g ?_
    refine ev_iconst dX9_drop_35 (mi_c rfl) ?_
    refine ev_iconst dX9_drop_36 (mi_c rfl) ?_
    refine ev_iload_n dX9_drop_37 2 rfl rfl ?_
    refine ev_imul dX9_drop_38 ?_
    refine ev_iadd dX9_drop_39 ?_
    refine ev_istore_n dX9_drop_40 rfl (Nat.le_of_ble_eq_true rfl) rfl ?_
    obtain ⟨r8, g, hD⟩ := bd hD
    refine Ev.pick [2, 1, 0] rfl ?_
    refine lk_X9_drop_41 mFU g ?_
    refine ev_aload_n dX9_drop_77 0 rfl rfl ?_
    obtain ⟨v9, g, hD⟩ := bd hD
    refine ew_getR 8 2 dX9_drop_78 rfl (Nat.le_of_ble_eq_true rfl) w_1267 in_X9 rfl g ?_
    refine ev_iconst dX9_drop_81 (mi_c rfl) ?_
    refine ev_dup2 dX9_drop_82 rfl rfl ?_
    obtain ⟨v10, g, hD⟩ := bd hD
    refine ew_iald dX9_drop_83 g ?_
    refine ev_iconst dX9_drop_84 (mi_c rfl) ?_
    refine ev_isub dX9_drop_85 ?_
    obtain ⟨s11, g, hD⟩ := bd hD
    refine ew_iast dX9_drop_86 g ?_
    refine ev_iload_n dX9_drop_87 1 rfl rfl ?_
    cases hD
    exact ev_ret (some (vi _)) dX9_drop_88 True.intro
  · rw [if_neg c] at hD
    refine ev_if_ne_f 15 dX9_drop_10 (by decide) c ?_
    refine ev_iconst dX9_drop_13 (mi_c rfl) ?_
    cases hD
    exact ev_ret (some (vi _)) dX9_drop_14 True.intro
theorem ct_X9_drop {G : mG} {x0 : Nat} {x1 : Int} {σ : mS} {R : (Int × mS)} (hD : D_X9_drop x0 x1 σ = some R) : Ct G M_X9_drop [vr x0, vi x1] σ (.inl (some (vi R.1))) R.2 := ct_of rfl (by decide +kernel) rfl (Nat.le_of_ble_eq_true rfl) rfl (lk_X9_drop hD)
def D_X9_undo_26 : Nat → Nat → Int → mS → Option mS
  | 0, _, _, _ => none
  | f + 1, x0, x1, σ =>
    if 303 ≤ x1 then
      some σ
    else
      (gR σ x0 8 2).bind fun v1 =>
      (gR σ x0 8 4).bind fun v2 =>
      (gI σ x0 8 5).bind fun v3 =>
      (lI σ v2 (mw ((mw (303 * v3)) + x1))).bind fun v4 =>
      (sI σ v1 x1 v4).bind fun s5 =>
      (D_X9_undo_26 f) x0 (mw (x1 + 1)) s5
set_option maxRecDepth 100000 in
set_option maxHeartbeats 4000000 in
theorem lk_X9_undo_26 {G : mG} (f : Nat) : ∀ {x0 : Nat} {x1 : Int} {σ : mS} {R : mS}, D_X9_undo_26 f x0 x1 σ = some R → ∀ {r : mX} {τ : mS}, Ev G M_X9_undo 60 [(0, vr x0)] [] R r τ → Ev G M_X9_undo 26 [(0, vr x0), (1, vi x1)] [] σ r τ := by
  induction f with
  | zero =>
    intros
    rename_i hD _ _ _
    cases hD
  | succ f ih =>
    intro x0 x1 σ R hD r τ hk
    have hrec := @ih
    rw [D_X9_undo_26] at hD
    refine ev_iload_n dX9_undo_26 1 rfl rfl ?_
    refine ev_sp dX9_undo_27 rfl ?_
    by_cases c : 303 ≤ x1
    · rw [if_pos c] at hD
      refine ev_icmp_ge_t (tgt := 60) dX9_undo_30 (by decide) c ?_
      cases hD
      refine Ev.pick [0] rfl ?_
      exact hk
    · rw [if_neg c] at hD
      refine ev_icmp_ge_f 60 dX9_undo_30 (by decide) c ?_
      refine ev_aload_n dX9_undo_33 0 rfl rfl ?_
      obtain ⟨v1, g, hD⟩ := bd hD
      refine ew_getR 8 2 dX9_undo_34 rfl (Nat.le_of_ble_eq_true rfl) w_1267 in_X9 rfl g ?_
      refine ev_iload_n dX9_undo_37 1 rfl rfl ?_
      refine ev_aload_n dX9_undo_38 0 rfl rfl ?_
      obtain ⟨v2, g, hD⟩ := bd hD
      refine ew_getR 8 4 dX9_undo_39 rfl (Nat.le_of_ble_eq_true rfl) w_1269 in_X9 rfl g ?_
      refine ev_sp dX9_undo_42 rfl ?_
      refine ev_aload_n dX9_undo_45 0 rfl rfl ?_
      obtain ⟨v3, g, hD⟩ := bd hD
      refine ew_getI 8 5 dX9_undo_46 rfl (Nat.le_of_ble_eq_true rfl) w_1270 in_X9 rfl g ?_
      refine ev_imul dX9_undo_49 ?_
      refine ev_iload_n dX9_undo_50 1 rfl rfl ?_
      refine ev_iadd dX9_undo_51 ?_
      obtain ⟨v4, g, hD⟩ := bd hD
      refine ew_iald dX9_undo_52 g ?_
      obtain ⟨s5, g, hD⟩ := bd hD
      refine ew_iast dX9_undo_53 g ?_
      refine ev_iinc dX9_undo_54 1 rfl (Nat.le_of_ble_eq_true rfl) rfl ?_
      refine ev_goto (tgt := 26) dX9_undo_57 (by decide) ?_
      refine Ev.pick [1, 0] rfl ?_
      exact hrec hD hk
def D_X9_undo (x0 : Nat) (σ : mS) : Option (Int × mS) :=
  (pI σ x0 8 0 0).bind fun s1 =>
  (gI s1 x0 8 5).bind fun v2 =>
  if v2 ≠ 0 then
    (gI s1 x0 8 5).bind fun v3 =>
    (pI s1 x0 8 5 (mw (v3 - 1))).bind fun s4 =>
    (D_X9_undo_26 mFU x0 0 s4).bind fun r5 =>
    (pB r5 x0 8 16 0).bind fun s6 =>
    (gI s6 x0 8 5).bind fun v7 =>
    some (v7, s6)
  else
    some (((-1)), s1)
set_option maxRecDepth 100000 in
set_option maxHeartbeats 4000000 in
theorem lk_X9_undo {G : mG} {x0 : Nat} {σ : mS} {R : (Int × mS)} (hD : D_X9_undo x0 σ = some R) : Ev G M_X9_undo 0 [(0, vr x0)] [] σ (.inl (some (vi R.1))) R.2 := by
  unfold D_X9_undo at hD
  refine ev_aload_n dX9_undo_0 0 rfl rfl ?_
  refine ev_iconst dX9_undo_1 (mi_c rfl) ?_
  obtain ⟨s1, g, hD⟩ := bd hD
  refine ew_putI 8 0 dX9_undo_2 rfl (Nat.le_of_ble_eq_true rfl) w_1265 in_X9 tyX9_ok nmX9 (Or.inl rfl) rfl g ?_
  refine ev_aload_n dX9_undo_5 0 rfl rfl ?_
  obtain ⟨v2, g, hD⟩ := bd hD
  refine ew_getI 8 5 dX9_undo_6 rfl (Nat.le_of_ble_eq_true rfl) w_1270 in_X9 rfl g ?_
  by_cases c : v2 ≠ 0
  · rw [if_pos c] at hD
    refine ev_if_ne_t (tgt := 14) dX9_undo_9 (by decide) c ?_
    refine ev_aload_n dX9_undo_14 0 rfl rfl ?_
    refine ev_dup dX9_undo_15 rfl ?_
    obtain ⟨v3, g, hD⟩ := bd hD
    refine ew_getI 8 5 dX9_undo_16 rfl (Nat.le_of_ble_eq_true rfl) w_1270 in_X9 rfl g ?_
    refine ev_iconst dX9_undo_19 (mi_c rfl) ?_
    refine ev_isub dX9_undo_20 ?_
    obtain ⟨s4, g, hD⟩ := bd hD
    refine ew_putI 8 5 dX9_undo_21 rfl (Nat.le_of_ble_eq_true rfl) w_1270 in_X9 tyX9_ok nmX9 (Or.inl rfl) rfl g ?_
    refine ev_iconst dX9_undo_24 (mi_c rfl) ?_
    refine ev_istore_n dX9_undo_25 rfl (Nat.le_of_ble_eq_true rfl) rfl ?_
    obtain ⟨r5, g, hD⟩ := bd hD
    refine Ev.pick [1, 0] rfl ?_
    refine lk_X9_undo_26 mFU g ?_
    refine ev_aload_n dX9_undo_60 0 rfl rfl ?_
    refine ev_iconst dX9_undo_61 (mi_c rfl) ?_
    obtain ⟨s6, g, hD⟩ := bd hD
    refine ew_putB 8 16 dX9_undo_62 rfl (Nat.le_of_ble_eq_true rfl) w_1281 in_X9 tyX9_ok nmX9 (Or.inl rfl) rfl g ?_
    refine ev_aload_n dX9_undo_65 0 rfl rfl ?_
    obtain ⟨v7, g, hD⟩ := bd hD
    refine ew_getI 8 5 dX9_undo_66 rfl (Nat.le_of_ble_eq_true rfl) w_1270 in_X9 rfl g ?_
    cases hD
    exact ev_ret (some (vi _)) dX9_undo_69 True.intro
  · rw [if_neg c] at hD
    refine ev_if_ne_f 14 dX9_undo_9 (by decide) c ?_
    refine ev_iconst dX9_undo_12 (mi_c rfl) ?_
    cases hD
    exact ev_ret (some (vi _)) dX9_undo_13 True.intro
theorem ct_X9_undo {G : mG} {x0 : Nat} {σ : mS} {R : (Int × mS)} (hD : D_X9_undo x0 σ = some R) : Ct G M_X9_undo [vr x0] σ (.inl (some (vi R.1))) R.2 := ct_of rfl (by decide +kernel) rfl (Nat.le_of_ble_eq_true rfl) rfl (lk_X9_undo hD)
def D_X9_goneAll_4 : Nat → Nat → Int → Int → mS → Option Int
  | 0, _, _, _, _ => none
  | f + 1, x0, x1, x2, σ =>
    (gR σ x0 8 2).bind fun v1 =>
    (lI σ v1 2).bind fun v2 =>
    if v2 ≤ x2 then
      some x1
    else
      (gR σ x0 8 25).bind fun v3 =>
      (lI σ v3 x2).bind fun v4 =>
      (D_X9_goneAll_4 f) x0 (mw (x1 + v4)) (mw (x2 + 1)) σ
set_option maxRecDepth 100000 in
set_option maxHeartbeats 4000000 in
theorem lk_X9_goneAll_4 {G : mG} (f : Nat) : ∀ {x0 : Nat} {x1 : Int} {x2 : Int} {σ : mS} {R : Int}, D_X9_goneAll_4 f x0 x1 x2 σ = some R → ∀ {r : mX} {τ : mS}, Ev G M_X9_goneAll 29 [(1, vi (R))] [] σ r τ → Ev G M_X9_goneAll 4 [(0, vr x0), (1, vi x1), (2, vi x2)] [] σ r τ := by
  induction f with
  | zero =>
    intros
    rename_i hD _ _ _
    cases hD
  | succ f ih =>
    intro x0 x1 x2 σ R hD r τ hk
    have hrec := @ih
    rw [D_X9_goneAll_4] at hD
    refine ev_iload_n dX9_goneAll_4 2 rfl rfl ?_
    refine ev_aload_n dX9_goneAll_5 0 rfl rfl ?_
    obtain ⟨v1, g, hD⟩ := bd hD
    refine ew_getR 8 2 dX9_goneAll_6 rfl (Nat.le_of_ble_eq_true rfl) w_1267 in_X9 rfl g ?_
    refine ev_iconst dX9_goneAll_9 (mi_c rfl) ?_
    obtain ⟨v2, g, hD⟩ := bd hD
    refine ew_iald dX9_goneAll_10 g ?_
    by_cases c : v2 ≤ x2
    · rw [if_pos c] at hD
      refine ev_icmp_ge_t (tgt := 29) dX9_goneAll_11 (by decide) c ?_
      cases hD
      refine Ev.pick [1] rfl ?_
      exact hk
    · rw [if_neg c] at hD
      refine ev_icmp_ge_f 29 dX9_goneAll_11 (by decide) c ?_
      refine ev_iload_n dX9_goneAll_14 1 rfl rfl ?_
      refine ev_aload_n dX9_goneAll_15 0 rfl rfl ?_
      obtain ⟨v3, g, hD⟩ := bd hD
      refine ew_getR 8 25 dX9_goneAll_16 rfl (Nat.le_of_ble_eq_true rfl) w_1290 in_X9 rfl g ?_
      refine ev_iload_n dX9_goneAll_19 2 rfl rfl ?_
      obtain ⟨v4, g, hD⟩ := bd hD
      refine ew_iald dX9_goneAll_20 g ?_
      refine ev_iadd dX9_goneAll_21 ?_
      refine ev_istore_n dX9_goneAll_22 rfl (Nat.le_of_ble_eq_true rfl) rfl ?_
      refine ev_iinc dX9_goneAll_23 2 rfl (Nat.le_of_ble_eq_true rfl) rfl ?_
      refine ev_goto (tgt := 4) dX9_goneAll_26 (by decide) ?_
      refine Ev.pick [2, 1, 0] rfl ?_
      exact hrec hD hk
def D_X9_goneAll (x0 : Nat) (σ : mS) : Option Int :=
  (D_X9_goneAll_4 mFU x0 0 0 σ).bind fun r1 =>
  some r1
set_option maxRecDepth 100000 in
set_option maxHeartbeats 4000000 in
theorem lk_X9_goneAll {G : mG} {x0 : Nat} {σ : mS} {R : Int} (hD : D_X9_goneAll x0 σ = some R) : Ev G M_X9_goneAll 0 [(0, vr x0)] [] σ (.inl (some (vi R))) σ := by
  unfold D_X9_goneAll at hD
  refine ev_iconst dX9_goneAll_0 (mi_c rfl) ?_
  refine ev_istore_n dX9_goneAll_1 rfl (Nat.le_of_ble_eq_true rfl) rfl ?_
  refine ev_iconst dX9_goneAll_2 (mi_c rfl) ?_
  refine ev_istore_n dX9_goneAll_3 rfl (Nat.le_of_ble_eq_true rfl) rfl ?_
  obtain ⟨r1, g, hD⟩ := bd hD
  refine Ev.pick [2, 1, 0] rfl ?_
  refine lk_X9_goneAll_4 mFU g ?_
  refine ev_iload_n dX9_goneAll_29 0 rfl rfl ?_
  cases hD
  exact ev_ret (some (vi _)) dX9_goneAll_30 True.intro
theorem ct_X9_goneAll {G : mG} {x0 : Nat} {σ : mS} {R : Int} (hD : D_X9_goneAll x0 σ = some R) : Ct G M_X9_goneAll [vr x0] σ (.inl (some (vi R))) σ := ct_of rfl (by decide +kernel) rfl (Nat.le_of_ble_eq_true rfl) rfl (lk_X9_goneAll hD)
def D_X9_told (x0 : Nat) (x1 : Int) (σ : mS) : Option (Int × mS) :=
  (pI σ x0 8 0 0).bind fun s1 =>
  (D_X9_within x1 0 11 s1).bind fun r2 =>
  (tgO s1 x0 8).bind fun _ =>
  (D_X9_isFine x0 r2 1 1 s1).bind fun r3 =>
  if r3.1 ≠ 0 then
    (tgO r3.2 x0 8).bind fun _ =>
    (D_X9_lays x0 r3.2).bind fun r4 =>
    if x1 = 0 then
      (gI r4 x0 8 8).bind fun v5 =>
      some (v5, r4)
    else
    if x1 = 1 then
      (gI r4 x0 8 6).bind fun v6 =>
      some (v6, r4)
    else
    if x1 = 2 then
      (gI r4 x0 8 7).bind fun v7 =>
      some (v7, r4)
    else
    if x1 = 3 then
      (gR r4 x0 8 2).bind fun v8 =>
      (lI r4 v8 2).bind fun v9 =>
      some (v9, r4)
    else
    if x1 = 4 then
      (gR r4 x0 8 2).bind fun v10 =>
      (lI r4 v10 0).bind fun v11 =>
      some (v11, r4)
    else
    if x1 = 5 then
      (gR r4 x0 8 2).bind fun v12 =>
      (lI r4 v12 1).bind fun v13 =>
      some (v13, r4)
    else
    if x1 = 6 then
      (gI r4 x0 8 20).bind fun v14 =>
      some (v14, r4)
    else
    if x1 = 7 then
      (tgO r4 x0 8).bind fun _ =>
      (D_X9_yearsAll x0 r4).bind fun r15 =>
      some (r15, r4)
    else
    if x1 = 8 then
      (tgO r4 x0 8).bind fun _ =>
      (D_X9_empties x0 r4).bind fun r16 =>
      some (r16, r4)
    else
    if x1 = 9 then
      (tgO r4 x0 8).bind fun _ =>
      (D_X9_goneAll x0 r4).bind fun r17 =>
      some (r17, r4)
    else
    if x1 = 10 then
      (gI r4 x0 8 5).bind fun v18 =>
      some (v18, r4)
    else
      (gI r4 x0 8 37).bind fun v19 =>
      some (v19, r4)
  else
    some (0, r3.2)
set_option maxRecDepth 100000 in
set_option maxHeartbeats 4000000 in
theorem lk_X9_told {G : mG} {x0 : Nat} {x1 : Int} {σ : mS} {R : (Int × mS)} (hD : D_X9_told x0 x1 σ = some R) : Ev G M_X9_told 0 [(0, vr x0), (1, vi x1)] [] σ (.inl (some (vi R.1))) R.2 := by
  unfold D_X9_told at hD
  refine ev_aload_n dX9_told_0 0 rfl rfl ?_
  refine ev_iconst dX9_told_1 (mi_c rfl) ?_
  obtain ⟨s1, g, hD⟩ := bd hD
  refine ew_putI 8 0 dX9_told_2 rfl (Nat.le_of_ble_eq_true rfl) w_1265 in_X9 tyX9_ok nmX9 (Or.inl rfl) rfl g ?_
  refine ev_aload_n dX9_told_5 0 rfl rfl ?_
  refine ev_iload_n dX9_told_6 1 rfl rfl ?_
  refine ev_iconst dX9_told_7 (mi_c rfl) ?_
  refine ev_bp dX9_told_8 rfl ?_
  obtain ⟨r2, g, hD⟩ := bd hD
  refine ew_callSv (as := [vi x1, vi 0, vi 11]) (rest := [vr x0]) dX9_told_10 v_X9_within w_1438 rfl (Nat.le_of_ble_eq_true rfl) (Nat.le_of_ble_eq_true rfl) (Nat.le_of_ble_eq_true rfl) (ct_X9_within g) ?_
  refine ev_iconst dX9_told_13 (mi_c rfl) ?_
  refine ev_iconst dX9_told_14 (mi_c rfl) ?_
  obtain ⟨_, g0, hD⟩ := bd hD
  obtain ⟨r3, g, hD⟩ := bd hD
  refine ew_callVv (as := [vi r2, vi 1, vi 1]) (a := x0) (rest := []) dX9_told_15 v_X9_isFine w_1441 rfl (Nat.le_of_ble_eq_true rfl) rfl rfl g0 (Nat.le_of_ble_eq_true rfl) (Nat.le_of_ble_eq_true rfl) (ct_X9_isFine g) ?_
  by_cases c : r3.1 ≠ 0
  · rw [if_pos c] at hD
    refine ev_if_ne_t (tgt := 23) dX9_told_18 (by decide) c ?_
    refine ev_aload_n dX9_told_23 0 rfl rfl ?_
    obtain ⟨_, g0, hD⟩ := bd hD
    obtain ⟨r4, g, hD⟩ := bd hD
    refine ew_callV0 (as := []) (a := x0) (rest := []) dX9_told_24 v_X9_lays w_1621 rfl (Nat.le_of_ble_eq_true rfl) rfl rfl g0 (Nat.le_of_ble_eq_true rfl) (Nat.le_of_ble_eq_true rfl) (ct_X9_lays g) ?_
    refine ev_iload_n dX9_told_27 1 rfl rfl ?_
    by_cases c0 : x1 = 0
    · rw [if_pos c0] at hD
      refine ev_tableIn (off := 60) (tgt := 88) dX9_told_28 (by omega) (by omega) (by rw [c0]; rfl) (by decide) ?_
      refine ev_aload_n dX9_told_88 0 rfl rfl ?_
      obtain ⟨v5, g, hD⟩ := bd hD
      refine ew_getI 8 8 dX9_told_89 rfl (Nat.le_of_ble_eq_true rfl) w_1273 in_X9 rfl g ?_
      cases hD
      exact ev_ret (some (vi _)) dX9_told_92 True.intro
    rw [if_neg c0] at hD
    by_cases c1 : x1 = 1
    · rw [if_pos c1] at hD
      refine ev_tableIn (off := 65) (tgt := 93) dX9_told_28 (by omega) (by omega) (by rw [c1]; rfl) (by decide) ?_
      refine ev_aload_n dX9_told_93 0 rfl rfl ?_
      obtain ⟨v6, g, hD⟩ := bd hD
      refine ew_getI 8 6 dX9_told_94 rfl (Nat.le_of_ble_eq_true rfl) w_1271 in_X9 rfl g ?_
      cases hD
      exact ev_ret (some (vi _)) dX9_told_97 True.intro
    rw [if_neg c1] at hD
    by_cases c2 : x1 = 2
    · rw [if_pos c2] at hD
      refine ev_tableIn (off := 70) (tgt := 98) dX9_told_28 (by omega) (by omega) (by rw [c2]; rfl) (by decide) ?_
      refine ev_aload_n dX9_told_98 0 rfl rfl ?_
      obtain ⟨v7, g, hD⟩ := bd hD
      refine ew_getI 8 7 dX9_told_99 rfl (Nat.le_of_ble_eq_true rfl) w_1272 in_X9 rfl g ?_
      cases hD
      exact ev_ret (some (vi _)) dX9_told_102 True.intro
    rw [if_neg c2] at hD
    by_cases c3 : x1 = 3
    · rw [if_pos c3] at hD
      refine ev_tableIn (off := 75) (tgt := 103) dX9_told_28 (by omega) (by omega) (by rw [c3]; rfl) (by decide) ?_
      refine ev_aload_n dX9_told_103 0 rfl rfl ?_
      obtain ⟨v8, g, hD⟩ := bd hD
      refine ew_getR 8 2 dX9_told_104 rfl (Nat.le_of_ble_eq_true rfl) w_1267 in_X9 rfl g ?_
      refine ev_iconst dX9_told_107 (mi_c rfl) ?_
      obtain ⟨v9, g, hD⟩ := bd hD
      refine ew_iald dX9_told_108 g ?_
      cases hD
      exact ev_ret (some (vi _)) dX9_told_109 True.intro
    rw [if_neg c3] at hD
    by_cases c4 : x1 = 4
    · rw [if_pos c4] at hD
      refine ev_tableIn (off := 82) (tgt := 110) dX9_told_28 (by omega) (by omega) (by rw [c4]; rfl) (by decide) ?_
      refine ev_aload_n dX9_told_110 0 rfl rfl ?_
      obtain ⟨v10, g, hD⟩ := bd hD
      refine ew_getR 8 2 dX9_told_111 rfl (Nat.le_of_ble_eq_true rfl) w_1267 in_X9 rfl g ?_
      refine ev_iconst dX9_told_114 (mi_c rfl) ?_
      obtain ⟨v11, g, hD⟩ := bd hD
      refine ew_iald dX9_told_115 g ?_
      cases hD
      exact ev_ret (some (vi _)) dX9_told_116 True.intro
    rw [if_neg c4] at hD
    by_cases c5 : x1 = 5
    · rw [if_pos c5] at hD
      refine ev_tableIn (off := 89) (tgt := 117) dX9_told_28 (by omega) (by omega) (by rw [c5]; rfl) (by decide) ?_
      refine ev_aload_n dX9_told_117 0 rfl rfl ?_
      obtain ⟨v12, g, hD⟩ := bd hD
      refine ew_getR 8 2 dX9_told_118 rfl (Nat.le_of_ble_eq_true rfl) w_1267 in_X9 rfl g ?_
      refine ev_iconst dX9_told_121 (mi_c rfl) ?_
      obtain ⟨v13, g, hD⟩ := bd hD
      refine ew_iald dX9_told_122 g ?_
      cases hD
      exact ev_ret (some (vi _)) dX9_told_123 True.intro
    rw [if_neg c5] at hD
    by_cases c6 : x1 = 6
    · rw [if_pos c6] at hD
      refine ev_tableIn (off := 96) (tgt := 124) dX9_told_28 (by omega) (by omega) (by rw [c6]; rfl) (by decide) ?_
      refine ev_aload_n dX9_told_124 0 rfl rfl ?_
      obtain ⟨v14, g, hD⟩ := bd hD
      refine ew_getI 8 20 dX9_told_125 rfl (Nat.le_of_ble_eq_true rfl) w_1285 in_X9 rfl g ?_
      cases hD
      exact ev_ret (some (vi _)) dX9_told_128 True.intro
    rw [if_neg c6] at hD
    by_cases c7 : x1 = 7
    · rw [if_pos c7] at hD
      refine ev_tableIn (off := 101) (tgt := 129) dX9_told_28 (by omega) (by omega) (by rw [c7]; rfl) (by decide) ?_
      refine ev_aload_n dX9_told_129 0 rfl rfl ?_
      obtain ⟨_, g0, hD⟩ := bd hD
      obtain ⟨r15, g, hD⟩ := bd hD
      refine ew_callVv (as := []) (a := x0) (rest := []) dX9_told_130 v_X9_yearsAll w_1695 rfl (Nat.le_of_ble_eq_true rfl) rfl rfl g0 (Nat.le_of_ble_eq_true rfl) (Nat.le_of_ble_eq_true rfl) (ct_X9_yearsAll g) ?_
      cases hD
      exact ev_ret (some (vi _)) dX9_told_133 True.intro
    rw [if_neg c7] at hD
    by_cases c8 : x1 = 8
    · rw [if_pos c8] at hD
      refine ev_tableIn (off := 106) (tgt := 134) dX9_told_28 (by omega) (by omega) (by rw [c8]; rfl) (by decide) ?_
      refine ev_aload_n dX9_told_134 0 rfl rfl ?_
      obtain ⟨_, g0, hD⟩ := bd hD
      obtain ⟨r16, g, hD⟩ := bd hD
      refine ew_callVv (as := []) (a := x0) (rest := []) dX9_told_135 v_X9_empties w_1699 rfl (Nat.le_of_ble_eq_true rfl) rfl rfl g0 (Nat.le_of_ble_eq_true rfl) (Nat.le_of_ble_eq_true rfl) (ct_X9_empties g) ?_
      cases hD
      exact ev_ret (some (vi _)) dX9_told_138 True.intro
    rw [if_neg c8] at hD
    by_cases c9 : x1 = 9
    · rw [if_pos c9] at hD
      refine ev_tableIn (off := 111) (tgt := 139) dX9_told_28 (by omega) (by omega) (by rw [c9]; rfl) (by decide) ?_
      refine ev_aload_n dX9_told_139 0 rfl rfl ?_
      obtain ⟨_, g0, hD⟩ := bd hD
      obtain ⟨r17, g, hD⟩ := bd hD
      refine ew_callVv (as := []) (a := x0) (rest := []) dX9_told_140 v_X9_goneAll w_1703 rfl (Nat.le_of_ble_eq_true rfl) rfl rfl g0 (Nat.le_of_ble_eq_true rfl) (Nat.le_of_ble_eq_true rfl) (ct_X9_goneAll g) ?_
      cases hD
      exact ev_ret (some (vi _)) dX9_told_143 True.intro
    rw [if_neg c9] at hD
    by_cases c10 : x1 = 10
    · rw [if_pos c10] at hD
      refine ev_tableIn (off := 116) (tgt := 144) dX9_told_28 (by omega) (by omega) (by rw [c10]; rfl) (by decide) ?_
      refine ev_aload_n dX9_told_144 0 rfl rfl ?_
      obtain ⟨v18, g, hD⟩ := bd hD
      refine ew_getI 8 5 dX9_told_145 rfl (Nat.le_of_ble_eq_true rfl) w_1270 in_X9 rfl g ?_
      cases hD
      exact ev_ret (some (vi _)) dX9_told_148 True.intro
    rw [if_neg c10] at hD
    refine ev_tableOut (tgt := 149) dX9_told_28 (by omega) (by decide) ?_
    refine ev_aload_n dX9_told_149 0 rfl rfl ?_
    obtain ⟨v19, g, hD⟩ := bd hD
    refine ew_getI 8 37 dX9_told_150 rfl (Nat.le_of_ble_eq_true rfl) w_1302 in_X9 rfl g ?_
    cases hD
    exact ev_ret (some (vi _)) dX9_told_153 True.intro
  · rw [if_neg c] at hD
    refine ev_if_ne_f 23 dX9_told_18 (by decide) c ?_
    refine ev_iconst dX9_told_21 (mi_c rfl) ?_
    cases hD
    exact ev_ret (some (vi _)) dX9_told_22 True.intro
theorem ct_X9_told {G : mG} {x0 : Nat} {x1 : Int} {σ : mS} {R : (Int × mS)} (hD : D_X9_told x0 x1 σ = some R) : Ct G M_X9_told [vr x0, vi x1] σ (.inl (some (vi R.1))) R.2 := ct_of rfl (by decide +kernel) rfl (Nat.le_of_ble_eq_true rfl) rfl (lk_X9_told hD)
def D_X9_isYear (x0 : Nat) (x1 : Int) (σ : mS) : Option (Int × mS) :=
  (D_X9_within x1 0 999 σ).bind fun r1 =>
  (tgO σ x0 8).bind fun _ =>
  (D_X9_isFine x0 r1 1 0 σ).bind fun r2 =>
  (bO r2.1).bind fun v3 =>
  some (v3, r2.2)
set_option maxRecDepth 100000 in
set_option maxHeartbeats 4000000 in
theorem lk_X9_isYear {G : mG} {x0 : Nat} {x1 : Int} {σ : mS} {R : (Int × mS)} (hD : D_X9_isYear x0 x1 σ = some R) : Ev G M_X9_isYear 0 [(0, vr x0), (1, vi x1)] [] σ (.inl (some (vi R.1))) R.2 := by
  unfold D_X9_isYear at hD
  refine ev_aload_n dX9_isYear_0 0 rfl rfl ?_
  refine ev_iload_n dX9_isYear_1 1 rfl rfl ?_
  refine ev_iconst dX9_isYear_2 (mi_c rfl) ?_
  refine ev_sp dX9_isYear_3 rfl ?_
  obtain ⟨r1, g, hD⟩ := bd hD
  refine ew_callSv (as := [vi x1, vi 0, vi 999]) (rest := [vr x0]) dX9_isYear_6 v_X9_within w_1438 rfl (Nat.le_of_ble_eq_true rfl) (Nat.le_of_ble_eq_true rfl) (Nat.le_of_ble_eq_true rfl) (ct_X9_within g) ?_
  refine ev_iconst dX9_isYear_9 (mi_c rfl) ?_
  refine ev_iconst dX9_isYear_10 (mi_c rfl) ?_
  obtain ⟨_, g0, hD⟩ := bd hD
  obtain ⟨r2, g, hD⟩ := bd hD
  refine ew_callVv (as := [vi r1, vi 1, vi 0]) (a := x0) (rest := []) dX9_isYear_11 v_X9_isFine w_1441 rfl (Nat.le_of_ble_eq_true rfl) rfl rfl g0 (Nat.le_of_ble_eq_true rfl) (Nat.le_of_ble_eq_true rfl) (ct_X9_isFine g) ?_
  obtain ⟨v3, gb, hD⟩ := bd hD
  cases hD
  exact ew_retb dX9_isYear_14 rfl gb
theorem ct_X9_isYear {G : mG} {x0 : Nat} {x1 : Int} {σ : mS} {R : (Int × mS)} (hD : D_X9_isYear x0 x1 σ = some R) : Ct G M_X9_isYear [vr x0, vi x1] σ (.inl (some (vi R.1))) R.2 := ct_of rfl (by decide +kernel) rfl (Nat.le_of_ble_eq_true rfl) rfl (lk_X9_isYear hD)
def D_X9_age_22 (y0 : Int) (σ : mS) : Option (Int × mS) :=
  some (y0, σ)
set_option maxRecDepth 100000 in
set_option maxHeartbeats 4000000 in
theorem lk_X9_age_22 {G : mG} {y0 : Int} {σ : mS} {R : (Int × mS)} (hD : D_X9_age_22 y0 σ = some R) : Ev G M_X9_age 22 [] [vi y0] σ (.inl (some (vi R.1))) R.2 := by
  unfold D_X9_age_22 at hD
  cases hD
  exact ev_ret (some (vi _)) dX9_age_22 True.intro
def D_X9_age (x0 : Nat) (x1 : Int) (σ : mS) : Option (Int × mS) :=
  (pI σ x0 8 0 0).bind fun s1 =>
  (tgO s1 x0 8).bind fun _ =>
  (D_X9_isYear x0 x1 s1).bind fun r2 =>
  if r2.1 = 0 then
    D_X9_age_22 0 r2.2
  else
    (tgO r2.2 x0 8).bind fun _ =>
    (D_X9_ageOf x0 x1 r2.2).bind fun r3 =>
    D_X9_age_22 r3 r2.2
set_option maxRecDepth 100000 in
set_option maxHeartbeats 4000000 in
theorem lk_X9_age {G : mG} {x0 : Nat} {x1 : Int} {σ : mS} {R : (Int × mS)} (hD : D_X9_age x0 x1 σ = some R) : Ev G M_X9_age 0 [(0, vr x0), (1, vi x1)] [] σ (.inl (some (vi R.1))) R.2 := by
  unfold D_X9_age at hD
  refine ev_aload_n dX9_age_0 0 rfl rfl ?_
  refine ev_iconst dX9_age_1 (mi_c rfl) ?_
  obtain ⟨s1, g, hD⟩ := bd hD
  refine ew_putI 8 0 dX9_age_2 rfl (Nat.le_of_ble_eq_true rfl) w_1265 in_X9 tyX9_ok nmX9 (Or.inl rfl) rfl g ?_
  refine ev_aload_n dX9_age_5 0 rfl rfl ?_
  refine ev_iload_n dX9_age_6 1 rfl rfl ?_
  obtain ⟨_, g0, hD⟩ := bd hD
  obtain ⟨r2, g, hD⟩ := bd hD
  refine ew_callVv (as := [vi x1]) (a := x0) (rest := []) dX9_age_7 v_X9_isYear w_1711 rfl (Nat.le_of_ble_eq_true rfl) rfl rfl g0 (Nat.le_of_ble_eq_true rfl) (Nat.le_of_ble_eq_true rfl) (ct_X9_isYear g) ?_
  by_cases c : r2.1 = 0
  · rw [if_pos c] at hD
    refine ev_if_eq_t (tgt := 21) dX9_age_10 (by decide) c ?_
    refine ev_iconst dX9_age_21 (mi_c rfl) ?_
    refine Ev.pick [] rfl ?_
    exact lk_X9_age_22 hD
  · rw [if_neg c] at hD
    refine ev_if_eq_f 21 dX9_age_10 (by decide) c ?_
    refine ev_aload_n dX9_age_13 0 rfl rfl ?_
    refine ev_iload_n dX9_age_14 1 rfl rfl ?_
    obtain ⟨_, g0, hD⟩ := bd hD
    obtain ⟨r3, g, hD⟩ := bd hD
    refine ew_callVv (as := [vi x1]) (a := x0) (rest := []) dX9_age_15 v_X9_ageOf w_1637 rfl (Nat.le_of_ble_eq_true rfl) rfl rfl g0 (Nat.le_of_ble_eq_true rfl) (Nat.le_of_ble_eq_true rfl) (ct_X9_ageOf g) ?_
    refine ev_goto (tgt := 22) dX9_age_18 (by decide) ?_
    refine Ev.pick [] rfl ?_
    exact lk_X9_age_22 hD
theorem ct_X9_age {G : mG} {x0 : Nat} {x1 : Int} {σ : mS} {R : (Int × mS)} (hD : D_X9_age x0 x1 σ = some R) : Ct G M_X9_age [vr x0, vi x1] σ (.inl (some (vi R.1))) R.2 := ct_of rfl (by decide +kernel) rfl (Nat.le_of_ble_eq_true rfl) rfl (lk_X9_age hD)
def D_X9_years_93 (rec : Nat → Int → Int → Int → Int → Int → mS → Option (Int × Int × Int)) (x0 : Nat) (x1 : Int) (x3 : Int) (x4 : Int) (x5 : Int) (x6 : Int) (σ : mS) : Option (Int × Int × Int) :=
  rec x0 x1 x3 x4 x5 (mw (x6 + 1)) σ
set_option maxRecDepth 100000 in
set_option maxHeartbeats 4000000 in
theorem lk_X9_years_93 {G : mG} {rec : Nat → Int → Int → Int → Int → Int → mS → Option (Int × Int × Int)} {x0 : Nat} {x1 : Int} {x2 : Int} {x3 : Int} {x4 : Int} {x5 : Int} {x6 : Int} {σ : mS} {R : (Int × Int × Int)} {r : mX} {τ : mS} (hD : D_X9_years_93 rec x0 x1 x3 x4 x5 x6 σ = some R) (hrec : ∀ {x0 : Nat} {x1 : Int} {x3 : Int} {x4 : Int} {x5 : Int} {x6 : Int} {σ : mS} {R : (Int × Int × Int)}, rec x0 x1 x3 x4 x5 x6 σ = some R → ∀ {r : mX} {τ : mS}, Ev G M_X9_years 99 [(2, vi x2), (3, vi (R.1)), (4, vi (R.2.1)), (5, vi (R.2.2))] [] σ r τ → Ev G M_X9_years 52 [(0, vr x0), (1, vi x1), (2, vi x2), (3, vi x3), (4, vi x4), (5, vi x5), (6, vi x6)] [] σ r τ) (hk : Ev G M_X9_years 99 [(2, vi x2), (3, vi (R.1)), (4, vi (R.2.1)), (5, vi (R.2.2))] [] σ r τ) : Ev G M_X9_years 93 [(0, vr x0), (1, vi x1), (2, vi x2), (3, vi x3), (4, vi x4), (5, vi x5), (6, vi x6)] [] σ r τ := by
  unfold D_X9_years_93 at hD
  refine ev_iinc dX9_years_93 6 rfl (Nat.le_of_ble_eq_true rfl) rfl ?_
  refine ev_goto (tgt := 52) dX9_years_96 (by decide) ?_
  refine Ev.pick [1, 2, 3, 4, 5, 6, 0] rfl ?_
  exact hrec hD hk
def D_X9_years_84 (rec : Nat → Int → Int → Int → Int → Int → mS → Option (Int × Int × Int)) (x0 : Nat) (x1 : Int) (x3 : Int) (x6 : Int) (y0 : Int) (σ : mS) : Option (Int × Int × Int) :=
  D_X9_years_93 rec x0 x1 (mw (x3 + 1)) y0 x6 x6 σ
set_option maxRecDepth 100000 in
set_option maxHeartbeats 4000000 in
theorem lk_X9_years_84 {G : mG} {rec : Nat → Int → Int → Int → Int → Int → mS → Option (Int × Int × Int)} {x0 : Nat} {x1 : Int} {x2 : Int} {x3 : Int} {x6 : Int} {y0 : Int} {σ : mS} {R : (Int × Int × Int)} {r : mX} {τ : mS} (hD : D_X9_years_84 rec x0 x1 x3 x6 y0 σ = some R) (hrec : ∀ {x0 : Nat} {x1 : Int} {x3 : Int} {x4 : Int} {x5 : Int} {x6 : Int} {σ : mS} {R : (Int × Int × Int)}, rec x0 x1 x3 x4 x5 x6 σ = some R → ∀ {r : mX} {τ : mS}, Ev G M_X9_years 99 [(2, vi x2), (3, vi (R.1)), (4, vi (R.2.1)), (5, vi (R.2.2))] [] σ r τ → Ev G M_X9_years 52 [(0, vr x0), (1, vi x1), (2, vi x2), (3, vi x3), (4, vi x4), (5, vi x5), (6, vi x6)] [] σ r τ) (hk : Ev G M_X9_years 99 [(2, vi x2), (3, vi (R.1)), (4, vi (R.2.1)), (5, vi (R.2.2))] [] σ r τ) : Ev G M_X9_years 84 [(0, vr x0), (1, vi x1), (2, vi x2), (3, vi x3), (6, vi x6)] [vi y0] σ r τ := by
  unfold D_X9_years_84 at hD
  refine ev_istore dX9_years_84 (Nat.le_of_ble_eq_true rfl) rfl ?_
  refine ev_iload dX9_years_86 5 rfl ?_
  refine ev_istore dX9_years_88 (Nat.le_of_ble_eq_true rfl) rfl ?_
  refine ev_iinc dX9_years_90 5 rfl (Nat.le_of_ble_eq_true rfl) rfl ?_
  refine Ev.pick [3, 4, 5, 0, 2, 1, 6] rfl ?_
  exact lk_X9_years_93 hD hrec hk
def D_X9_years_52 : Nat → Nat → Int → Int → Int → Int → Int → mS → Option (Int × Int × Int)
  | 0, _, _, _, _, _, _, _ => none
  | f + 1, x0, x1, x3, x4, x5, x6, σ =>
    if 1000 ≤ x6 then
      some (x3, x4, x5)
    else
      (tgO σ x0 8).bind fun _ =>
      (D_X9_ageOf x0 x6 σ).bind fun r1 =>
      if r1 = x1 then
        if x3 ≠ 0 then
          D_X9_years_84 (D_X9_years_52 f) x0 x1 x3 x6 x4 σ
        else
          D_X9_years_84 (D_X9_years_52 f) x0 x1 x3 x6 x6 σ
      else
        D_X9_years_93 (D_X9_years_52 f) x0 x1 x3 x4 x5 x6 σ
set_option maxRecDepth 100000 in
set_option maxHeartbeats 4000000 in
theorem lk_X9_years_52 {G : mG} {x2 : Int} (f : Nat) : ∀ {x0 : Nat} {x1 : Int} {x3 : Int} {x4 : Int} {x5 : Int} {x6 : Int} {σ : mS} {R : (Int × Int × Int)}, D_X9_years_52 f x0 x1 x3 x4 x5 x6 σ = some R → ∀ {r : mX} {τ : mS}, Ev G M_X9_years 99 [(2, vi x2), (3, vi (R.1)), (4, vi (R.2.1)), (5, vi (R.2.2))] [] σ r τ → Ev G M_X9_years 52 [(0, vr x0), (1, vi x1), (2, vi x2), (3, vi x3), (4, vi x4), (5, vi x5), (6, vi x6)] [] σ r τ := by
  induction f with
  | zero =>
    intros
    rename_i hD _ _ _
    cases hD
  | succ f ih =>
    intro x0 x1 x3 x4 x5 x6 σ R hD r τ hk
    have hrec := @ih
    rw [D_X9_years_52] at hD
    refine ev_iload dX9_years_52 6 rfl ?_
    refine ev_sp dX9_years_54 rfl ?_
    by_cases c : 1000 ≤ x6
    · rw [if_pos c] at hD
      refine ev_icmp_ge_t (tgt := 99) dX9_years_57 (by decide) c ?_
      cases hD
      refine Ev.pick [2, 3, 4, 5] rfl ?_
      exact hk
    · rw [if_neg c] at hD
      refine ev_icmp_ge_f 99 dX9_years_57 (by decide) c ?_
      refine ev_aload_n dX9_years_60 0 rfl rfl ?_
      refine ev_iload dX9_years_61 6 rfl ?_
      obtain ⟨_, g0, hD⟩ := bd hD
      obtain ⟨r1, g, hD⟩ := bd hD
      refine ew_callVv (as := [vi x6]) (a := x0) (rest := []) dX9_years_63 v_X9_ageOf w_1637 rfl (Nat.le_of_ble_eq_true rfl) rfl rfl g0 (Nat.le_of_ble_eq_true rfl) (Nat.le_of_ble_eq_true rfl) (ct_X9_ageOf g) ?_
      refine ev_iload_n dX9_years_66 1 rfl rfl ?_
      by_cases c : r1 = x1
      · rw [if_pos c] at hD
        refine ev_icmp_eq_t (tgt := 73) dX9_years_67 (by decide) c ?_
        refine ev_iload_n dX9_years_73 3 rfl rfl ?_
        by_cases c : x3 ≠ 0
        · rw [if_pos c] at hD
          refine ev_if_ne_t (tgt := 82) dX9_years_74 (by decide) c ?_
          refine ev_iload dX9_years_82 4 rfl ?_
          refine Ev.pick [0, 1, 2, 3, 6] rfl ?_
          exact lk_X9_years_84 hD hrec hk
        · rw [if_neg c] at hD
          refine ev_if_ne_f 82 dX9_years_74 (by decide) c ?_
          refine ev_iload dX9_years_77 6 rfl ?_
          refine ev_goto (tgt := 84) dX9_years_79 (by decide) ?_
          refine Ev.pick [0, 1, 2, 3, 6] rfl ?_
          exact lk_X9_years_84 hD hrec hk
      · rw [if_neg c] at hD
        refine ev_icmp_eq_f 73 dX9_years_67 (by decide) c ?_
        refine ev_goto (tgt := 93) dX9_years_70 (by decide) ?_
        exact lk_X9_years_93 hD hrec hk
def D_X9_years_119 (y0 : Int) (σ : mS) : Option (Int × mS) :=
  some (y0, σ)
set_option maxRecDepth 100000 in
set_option maxHeartbeats 4000000 in
theorem lk_X9_years_119 {G : mG} {y0 : Int} {σ : mS} {R : (Int × mS)} (hD : D_X9_years_119 y0 σ = some R) : Ev G M_X9_years 119 [] [vi y0] σ (.inl (some (vi R.1))) R.2 := by
  unfold D_X9_years_119 at hD
  cases hD
  exact ev_ret (some (vi _)) dX9_years_119 True.intro
def D_X9_years_31 (x0 : Nat) (x1 : Int) (x2 : Int) (y0 : Int) (y1 : Nat) (σ : mS) : Option (Int × mS) :=
  (tgO σ y1 8).bind fun _ =>
  (D_X9_isFine y1 y0 1 1 σ).bind fun r1 =>
  if r1.1 ≠ 0 then
    (D_X9_years_52 mFU x0 x1 0 ((-1)) ((-1)) 0 r1.2).bind fun r2 =>
    if x2 ≠ 0 then
      if x2 ≠ 1 then
        D_X9_years_119 r2.2.2 r1.2
      else
        D_X9_years_119 r2.2.1 r1.2
    else
      D_X9_years_119 r2.1 r1.2
  else
    some (0, r1.2)
set_option maxRecDepth 100000 in
set_option maxHeartbeats 4000000 in
theorem lk_X9_years_31 {G : mG} {x0 : Nat} {x1 : Int} {x2 : Int} {y0 : Int} {y1 : Nat} {σ : mS} {R : (Int × mS)} (hD : D_X9_years_31 x0 x1 x2 y0 y1 σ = some R) : Ev G M_X9_years 31 [(0, vr x0), (1, vi x1), (2, vi x2)] [vi y0, vr y1] σ (.inl (some (vi R.1))) R.2 := by
  unfold D_X9_years_31 at hD
  refine ev_iconst dX9_years_31 (mi_c rfl) ?_
  refine ev_iconst dX9_years_32 (mi_c rfl) ?_
  obtain ⟨_, g0, hD⟩ := bd hD
  obtain ⟨r1, g, hD⟩ := bd hD
  refine ew_callVv (as := [vi y0, vi 1, vi 1]) (a := y1) (rest := []) dX9_years_33 v_X9_isFine w_1441 rfl (Nat.le_of_ble_eq_true rfl) rfl rfl g0 (Nat.le_of_ble_eq_true rfl) (Nat.le_of_ble_eq_true rfl) (ct_X9_isFine g) ?_
  by_cases c : r1.1 ≠ 0
  · rw [if_pos c] at hD
    refine ev_if_ne_t (tgt := 41) dX9_years_36 (by decide) c ?_
    refine ev_iconst dX9_years_41 (mi_c rfl) ?_
    refine ev_istore_n dX9_years_42 rfl (Nat.le_of_ble_eq_true rfl) rfl ?_
    refine ev_iconst dX9_years_43 (mi_c rfl) ?_
    refine ev_istore dX9_years_44 (Nat.le_of_ble_eq_true rfl) rfl ?_
    refine ev_iconst dX9_years_46 (mi_c rfl) ?_
    refine ev_istore dX9_years_47 (Nat.le_of_ble_eq_true rfl) rfl ?_
    refine ev_iconst dX9_years_49 (mi_c rfl) ?_
    refine ev_istore dX9_years_50 (Nat.le_of_ble_eq_true rfl) rfl ?_
    obtain ⟨r2, g, hD⟩ := bd hD
    refine Ev.pick [4, 5, 6, 3, 2, 1, 0] rfl ?_
    refine lk_X9_years_52 mFU g ?_
    refine ev_iload_n dX9_years_99 0 rfl rfl ?_
    by_cases c : x2 ≠ 0
    · rw [if_pos c] at hD
      refine ev_if_ne_t (tgt := 107) dX9_years_100 (by decide) c ?_
      refine ev_iload_n dX9_years_107 0 rfl rfl ?_
      refine ev_iconst dX9_years_108 (mi_c rfl) ?_
      by_cases c : x2 ≠ 1
      · rw [if_pos c] at hD
        refine ev_icmp_ne_t (tgt := 117) dX9_years_109 (by decide) c ?_
        refine ev_iload dX9_years_117 3 rfl ?_
        refine Ev.pick [] rfl ?_
        exact lk_X9_years_119 hD
      · rw [if_neg c] at hD
        refine ev_icmp_ne_f 117 dX9_years_109 (by decide) c ?_
        refine ev_iload dX9_years_112 2 rfl ?_
        refine ev_goto (tgt := 119) dX9_years_114 (by decide) ?_
        refine Ev.pick [] rfl ?_
        exact lk_X9_years_119 hD
    · rw [if_neg c] at hD
      refine ev_if_ne_f 107 dX9_years_100 (by decide) c ?_
      refine ev_iload_n dX9_years_103 1 rfl rfl ?_
      refine ev_goto (tgt := 119) dX9_years_104 (by decide) ?_
      refine Ev.pick [] rfl ?_
      exact lk_X9_years_119 hD
  · rw [if_neg c] at hD
    refine ev_if_ne_f 41 dX9_years_36 (by decide) c ?_
    refine ev_iconst dX9_years_39 (mi_c rfl) ?_
    cases hD
    exact ev_ret (some (vi _)) dX9_years_40 True.intro
def D_X9_years_30 (x0 : Nat) (x1 : Int) (x2 : Int) (y0 : Nat) (σ : mS) : Option (Int × mS) :=
  D_X9_years_31 x0 x1 x2 0 y0 σ
set_option maxRecDepth 100000 in
set_option maxHeartbeats 4000000 in
theorem lk_X9_years_30 {G : mG} {x0 : Nat} {x1 : Int} {x2 : Int} {y0 : Nat} {σ : mS} {R : (Int × mS)} (hD : D_X9_years_30 x0 x1 x2 y0 σ = some R) : Ev G M_X9_years 30 [(0, vr x0), (1, vi x1), (2, vi x2)] [vr y0] σ (.inl (some (vi R.1))) R.2 := by
  unfold D_X9_years_30 at hD
  refine ev_iconst dX9_years_30 (mi_c rfl) ?_
  exact lk_X9_years_31 hD
def D_X9_years (x0 : Nat) (x1 : Int) (x2 : Int) (σ : mS) : Option (Int × mS) :=
  (pI σ x0 8 0 0).bind fun s1 =>
  (D_X9_within x1 0 9999 s1).bind fun r2 =>
  if r2 = 0 then
    D_X9_years_30 x0 x1 x2 x0 s1
  else
    (D_X9_within x2 0 2 s1).bind fun r3 =>
    if r3 = 0 then
      D_X9_years_30 x0 x1 x2 x0 s1
    else
      D_X9_years_31 x0 x1 x2 1 x0 s1
set_option maxRecDepth 100000 in
set_option maxHeartbeats 4000000 in
theorem lk_X9_years {G : mG} {x0 : Nat} {x1 : Int} {x2 : Int} {σ : mS} {R : (Int × mS)} (hD : D_X9_years x0 x1 x2 σ = some R) : Ev G M_X9_years 0 [(0, vr x0), (1, vi x1), (2, vi x2)] [] σ (.inl (some (vi R.1))) R.2 := by
  unfold D_X9_years at hD
  refine ev_aload_n dX9_years_0 0 rfl rfl ?_
  refine ev_iconst dX9_years_1 (mi_c rfl) ?_
  obtain ⟨s1, g, hD⟩ := bd hD
  refine ew_putI 8 0 dX9_years_2 rfl (Nat.le_of_ble_eq_true rfl) w_1265 in_X9 tyX9_ok nmX9 (Or.inl rfl) rfl g ?_
  refine ev_aload_n dX9_years_5 0 rfl rfl ?_
  refine ev_iload_n dX9_years_6 1 rfl rfl ?_
  refine ev_iconst dX9_years_7 (mi_c rfl) ?_
  refine ev_sp dX9_years_8 rfl ?_
  obtain ⟨r2, g, hD⟩ := bd hD
  refine ew_callSv (as := [vi x1, vi 0, vi 9999]) (rest := [vr x0]) dX9_years_11 v_X9_within w_1438 rfl (Nat.le_of_ble_eq_true rfl) (Nat.le_of_ble_eq_true rfl) (Nat.le_of_ble_eq_true rfl) (ct_X9_within g) ?_
  by_cases c : r2 = 0
  · rw [if_pos c] at hD
    refine ev_if_eq_t (tgt := 30) dX9_years_14 (by decide) c ?_
    exact lk_X9_years_30 hD
  · rw [if_neg c] at hD
    refine ev_if_eq_f 30 dX9_years_14 (by decide) c ?_
    refine ev_iload_n dX9_years_17 2 rfl rfl ?_
    refine ev_iconst dX9_years_18 (mi_c rfl) ?_
    refine ev_iconst dX9_years_19 (mi_c rfl) ?_
    obtain ⟨r3, g, hD⟩ := bd hD
    refine ew_callSv (as := [vi x2, vi 0, vi 2]) (rest := [vr x0]) dX9_years_20 v_X9_within w_1438 rfl (Nat.le_of_ble_eq_true rfl) (Nat.le_of_ble_eq_true rfl) (Nat.le_of_ble_eq_true rfl) (ct_X9_within g) ?_
    by_cases c : r3 = 0
    · rw [if_pos c] at hD
      refine ev_if_eq_t (tgt := 30) dX9_years_23 (by decide) c ?_
      exact lk_X9_years_30 hD
    · rw [if_neg c] at hD
      refine ev_if_eq_f 30 dX9_years_23 (by decide) c ?_
      refine ev_iconst dX9_years_26 (mi_c rfl) ?_
      refine ev_goto (tgt := 31) dX9_years_27 (by decide) ?_
      exact lk_X9_years_31 hD
theorem ct_X9_years {G : mG} {x0 : Nat} {x1 : Int} {x2 : Int} {σ : mS} {R : (Int × mS)} (hD : D_X9_years x0 x1 x2 σ = some R) : Ct G M_X9_years [vr x0, vi x1, vi x2] σ (.inl (some (vi R.1))) R.2 := ct_of rfl (by decide +kernel) rfl (Nat.le_of_ble_eq_true rfl) rfl (lk_X9_years hD)
def D_X9_knot_40 (σ : mS) : Option (Int × mS) :=
  some (0, σ)
set_option maxRecDepth 100000 in
set_option maxHeartbeats 4000000 in
theorem lk_X9_knot_40 {G : mG} {σ : mS} {R : (Int × mS)} (hD : D_X9_knot_40  σ = some R) : Ev G M_X9_knot 40 [] [] σ (.inl (some (vi R.1))) R.2 := by
  unfold D_X9_knot_40 at hD
  refine ev_iconst dX9_knot_40 (mi_c rfl) ?_
  cases hD
  exact ev_ret (some (vi _)) dX9_knot_41 True.intro
def D_X9_knot_61 (y0 : Int) (σ : mS) : Option (Int × mS) :=
  some (y0, σ)
set_option maxRecDepth 100000 in
set_option maxHeartbeats 4000000 in
theorem lk_X9_knot_61 {G : mG} {y0 : Int} {σ : mS} {R : (Int × mS)} (hD : D_X9_knot_61 y0 σ = some R) : Ev G M_X9_knot 61 [] [vi y0] σ (.inl (some (vi R.1))) R.2 := by
  unfold D_X9_knot_61 at hD
  cases hD
  exact ev_ret (some (vi _)) dX9_knot_61 True.intro
def D_X9_knot (x0 : Nat) (x1 : Int) (x2 : Int) (σ : mS) : Option (Int × mS) :=
  (pI σ x0 8 0 0).bind fun s1 =>
  (gI s1 x0 8 8).bind fun v2 =>
  (D_X9_within x1 0 (mw (v2 - 1)) s1).bind fun r3 =>
  (tgO s1 x0 8).bind fun _ =>
  (D_X9_isFine x0 r3 1 0 s1).bind fun r4 =>
  if r4.1 = 0 then
    D_X9_knot_40  r4.2
  else
    (D_X9_within x2 0 1 r4.2).bind fun r5 =>
    (tgO r4.2 x0 8).bind fun _ =>
    (D_X9_isFine x0 r5 2 1 r4.2).bind fun r6 =>
    if r6.1 ≠ 0 then
      if x2 ≠ 0 then
        (gR r6.2 x0 8 10).bind fun v7 =>
        (lI r6.2 v7 x1).bind fun v8 =>
        D_X9_knot_61 v8 r6.2
      else
        (gR r6.2 x0 8 9).bind fun v9 =>
        (lI r6.2 v9 x1).bind fun v10 =>
        D_X9_knot_61 v10 r6.2
    else
      D_X9_knot_40  r6.2
set_option maxRecDepth 100000 in
set_option maxHeartbeats 4000000 in
theorem lk_X9_knot {G : mG} {x0 : Nat} {x1 : Int} {x2 : Int} {σ : mS} {R : (Int × mS)} (hD : D_X9_knot x0 x1 x2 σ = some R) : Ev G M_X9_knot 0 [(0, vr x0), (1, vi x1), (2, vi x2)] [] σ (.inl (some (vi R.1))) R.2 := by
  unfold D_X9_knot at hD
  refine ev_aload_n dX9_knot_0 0 rfl rfl ?_
  refine ev_iconst dX9_knot_1 (mi_c rfl) ?_
  obtain ⟨s1, g, hD⟩ := bd hD
  refine ew_putI 8 0 dX9_knot_2 rfl (Nat.le_of_ble_eq_true rfl) w_1265 in_X9 tyX9_ok nmX9 (Or.inl rfl) rfl g ?_
  refine ev_aload_n dX9_knot_5 0 rfl rfl ?_
  refine ev_iload_n dX9_knot_6 1 rfl rfl ?_
  refine ev_iconst dX9_knot_7 (mi_c rfl) ?_
  refine ev_aload_n dX9_knot_8 0 rfl rfl ?_
  obtain ⟨v2, g, hD⟩ := bd hD
  refine ew_getI 8 8 dX9_knot_9 rfl (Nat.le_of_ble_eq_true rfl) w_1273 in_X9 rfl g ?_
  refine ev_iconst dX9_knot_12 (mi_c rfl) ?_
  refine ev_isub dX9_knot_13 ?_
  obtain ⟨r3, g, hD⟩ := bd hD
  refine ew_callSv (as := [vi x1, vi 0, vi (mw (v2 - 1))]) (rest := [vr x0]) dX9_knot_14 v_X9_within w_1438 rfl (Nat.le_of_ble_eq_true rfl) (Nat.le_of_ble_eq_true rfl) (Nat.le_of_ble_eq_true rfl) (ct_X9_within g) ?_
  refine ev_iconst dX9_knot_17 (mi_c rfl) ?_
  refine ev_iconst dX9_knot_18 (mi_c rfl) ?_
  obtain ⟨_, g0, hD⟩ := bd hD
  obtain ⟨r4, g, hD⟩ := bd hD
  refine ew_callVv (as := [vi r3, vi 1, vi 0]) (a := x0) (rest := []) dX9_knot_19 v_X9_isFine w_1441 rfl (Nat.le_of_ble_eq_true rfl) rfl rfl g0 (Nat.le_of_ble_eq_true rfl) (Nat.le_of_ble_eq_true rfl) (ct_X9_isFine g) ?_
  by_cases c : r4.1 = 0
  · rw [if_pos c] at hD
    refine ev_if_eq_t (tgt := 40) dX9_knot_22 (by decide) c ?_
    refine Ev.pick [] rfl ?_
    exact lk_X9_knot_40 hD
  · rw [if_neg c] at hD
    refine ev_if_eq_f 40 dX9_knot_22 (by decide) c ?_
    refine ev_aload_n dX9_knot_25 0 rfl rfl ?_
    refine ev_iload_n dX9_knot_26 2 rfl rfl ?_
    refine ev_iconst dX9_knot_27 (mi_c rfl) ?_
    refine ev_iconst dX9_knot_28 (mi_c rfl) ?_
    obtain ⟨r5, g, hD⟩ := bd hD
    refine ew_callSv (as := [vi x2, vi 0, vi 1]) (rest := [vr x0]) dX9_knot_29 v_X9_within w_1438 rfl (Nat.le_of_ble_eq_true rfl) (Nat.le_of_ble_eq_true rfl) (Nat.le_of_ble_eq_true rfl) (ct_X9_within g) ?_
    refine ev_iconst dX9_knot_32 (mi_c rfl) ?_
    refine ev_iconst dX9_knot_33 (mi_c rfl) ?_
    obtain ⟨_, g0, hD⟩ := bd hD
    obtain ⟨r6, g, hD⟩ := bd hD
    refine ew_callVv (as := [vi r5, vi 2, vi 1]) (a := x0) (rest := []) dX9_knot_34 v_X9_isFine w_1441 rfl (Nat.le_of_ble_eq_true rfl) rfl rfl g0 (Nat.le_of_ble_eq_true rfl) (Nat.le_of_ble_eq_true rfl) (ct_X9_isFine g) ?_
    by_cases c : r6.1 ≠ 0
    · rw [if_pos c] at hD
      refine ev_if_ne_t (tgt := 42) dX9_knot_37 (by decide) c ?_
      refine ev_iload_n dX9_knot_42 2 rfl rfl ?_
      by_cases c : x2 ≠ 0
      · rw [if_pos c] at hD
        refine ev_if_ne_t (tgt := 55) dX9_knot_43 (by decide) c ?_
        refine ev_aload_n dX9_knot_55 0 rfl rfl ?_
        obtain ⟨v7, g, hD⟩ := bd hD
        refine ew_getR 8 10 dX9_knot_56 rfl (Nat.le_of_ble_eq_true rfl) w_1275 in_X9 rfl g ?_
        refine ev_iload_n dX9_knot_59 1 rfl rfl ?_
        obtain ⟨v8, g, hD⟩ := bd hD
        refine ew_iald dX9_knot_60 g ?_
        refine Ev.pick [] rfl ?_
        exact lk_X9_knot_61 hD
      · rw [if_neg c] at hD
        refine ev_if_ne_f 55 dX9_knot_43 (by decide) c ?_
        refine ev_aload_n dX9_knot_46 0 rfl rfl ?_
        obtain ⟨v9, g, hD⟩ := bd hD
        refine ew_getR 8 9 dX9_knot_47 rfl (Nat.le_of_ble_eq_true rfl) w_1274 in_X9 rfl g ?_
        refine ev_iload_n dX9_knot_50 1 rfl rfl ?_
        obtain ⟨v10, g, hD⟩ := bd hD
        refine ew_iald dX9_knot_51 g ?_
        refine ev_goto (tgt := 61) dX9_knot_52 (by decide) ?_
        refine Ev.pick [] rfl ?_
        exact lk_X9_knot_61 hD
    · rw [if_neg c] at hD
      refine ev_if_ne_f 42 dX9_knot_37 (by decide) c ?_
      refine Ev.pick [] rfl ?_
      exact lk_X9_knot_40 hD
theorem ct_X9_knot {G : mG} {x0 : Nat} {x1 : Int} {x2 : Int} {σ : mS} {R : (Int × mS)} (hD : D_X9_knot x0 x1 x2 σ = some R) : Ct G M_X9_knot [vr x0, vi x1, vi x2] σ (.inl (some (vi R.1))) R.2 := ct_of rfl (by decide +kernel) rfl (Nat.le_of_ble_eq_true rfl) rfl (lk_X9_knot hD)
def D_X9_begins_23 (y0 : Int) (σ : mS) : Option Int :=
  (bO y0).bind fun v1 =>
  some v1
set_option maxRecDepth 100000 in
set_option maxHeartbeats 4000000 in
theorem lk_X9_begins_23 {G : mG} {y0 : Int} {σ : mS} {R : Int} (hD : D_X9_begins_23 y0 σ = some R) : Ev G M_X9_begins 23 [] [vi y0] σ (.inl (some (vi R))) σ := by
  unfold D_X9_begins_23 at hD
  obtain ⟨v1, gb, hD⟩ := bd hD
  cases hD
  exact ew_retb dX9_begins_23 rfl gb
def D_X9_begins_22 (σ : mS) : Option Int :=
  D_X9_begins_23 0 σ
set_option maxRecDepth 100000 in
set_option maxHeartbeats 4000000 in
theorem lk_X9_begins_22 {G : mG} {σ : mS} {R : Int} (hD : D_X9_begins_22  σ = some R) : Ev G M_X9_begins 22 [] [] σ (.inl (some (vi R))) σ := by
  unfold D_X9_begins_22 at hD
  refine ev_iconst dX9_begins_22 (mi_c rfl) ?_
  exact lk_X9_begins_23 hD
def D_X9_begins_18 (σ : mS) : Option Int :=
  D_X9_begins_23 1 σ
set_option maxRecDepth 100000 in
set_option maxHeartbeats 4000000 in
theorem lk_X9_begins_18 {G : mG} {σ : mS} {R : Int} (hD : D_X9_begins_18  σ = some R) : Ev G M_X9_begins 18 [] [] σ (.inl (some (vi R))) σ := by
  unfold D_X9_begins_18 at hD
  refine ev_iconst dX9_begins_18 (mi_c rfl) ?_
  refine ev_goto (tgt := 23) dX9_begins_19 (by decide) ?_
  exact lk_X9_begins_23 hD
def D_X9_begins (x0 : Nat) (x1 : Nat) (x2 : Int) (σ : mS) : Option Int :=
  (lB σ x1 x2).bind fun v1 =>
  if v1 = 0 then
    D_X9_begins_22  σ
  else
    if x2 = 0 then
      D_X9_begins_18  σ
    else
      (lB σ x1 (mw (x2 - 1))).bind fun v2 =>
      if v2 ≠ 0 then
        D_X9_begins_22  σ
      else
        D_X9_begins_18  σ
set_option maxRecDepth 100000 in
set_option maxHeartbeats 4000000 in
theorem lk_X9_begins {G : mG} {x0 : Nat} {x1 : Nat} {x2 : Int} {σ : mS} {R : Int} (hD : D_X9_begins x0 x1 x2 σ = some R) : Ev G M_X9_begins 0 [(0, vr x0), (1, vr x1), (2, vi x2)] [] σ (.inl (some (vi R))) σ := by
  unfold D_X9_begins at hD
  refine ev_aload_n dX9_begins_0 1 rfl rfl ?_
  refine ev_iload_n dX9_begins_1 2 rfl rfl ?_
  obtain ⟨v1, g, hD⟩ := bd hD
  refine ew_bald dX9_begins_2 g ?_
  by_cases c : v1 = 0
  · rw [if_pos c] at hD
    refine ev_if_eq_t (tgt := 22) dX9_begins_3 (by decide) c ?_
    refine Ev.pick [] rfl ?_
    exact lk_X9_begins_22 hD
  · rw [if_neg c] at hD
    refine ev_if_eq_f 22 dX9_begins_3 (by decide) c ?_
    refine ev_iload_n dX9_begins_6 2 rfl rfl ?_
    by_cases c : x2 = 0
    · rw [if_pos c] at hD
      refine ev_if_eq_t (tgt := 18) dX9_begins_7 (by decide) c ?_
      refine Ev.pick [] rfl ?_
      exact lk_X9_begins_18 hD
    · rw [if_neg c] at hD
      refine ev_if_eq_f 18 dX9_begins_7 (by decide) c ?_
      refine ev_aload_n dX9_begins_10 1 rfl rfl ?_
      refine ev_iload_n dX9_begins_11 2 rfl rfl ?_
      refine ev_iconst dX9_begins_12 (mi_c rfl) ?_
      refine ev_isub dX9_begins_13 ?_
      obtain ⟨v2, g, hD⟩ := bd hD
      refine ew_bald dX9_begins_14 g ?_
      by_cases c : v2 ≠ 0
      · rw [if_pos c] at hD
        refine ev_if_ne_t (tgt := 22) dX9_begins_15 (by decide) c ?_
        refine Ev.pick [] rfl ?_
        exact lk_X9_begins_22 hD
      · rw [if_neg c] at hD
        refine ev_if_ne_f 22 dX9_begins_15 (by decide) c ?_
        refine Ev.pick [] rfl ?_
        exact lk_X9_begins_18 hD
theorem ct_X9_begins {G : mG} {x0 : Nat} {x1 : Nat} {x2 : Int} {σ : mS} {R : Int} (hD : D_X9_begins x0 x1 x2 σ = some R) : Ct G M_X9_begins [vr x0, vr x1, vi x2] σ (.inl (some (vi R))) σ := ct_of rfl (by decide +kernel) rfl (Nat.le_of_ble_eq_true rfl) rfl (lk_X9_begins hD)
def D_X9_intervals_26 (rec : Nat → Nat → Int → Int → mS → Option Int) (x0 : Nat) (x1 : Nat) (x3 : Int) (y0 : Int) (y1 : Int) (σ : mS) : Option Int :=
  rec x0 x1 (mw (y1 + y0)) (mw (x3 + 1)) σ
set_option maxRecDepth 100000 in
set_option maxHeartbeats 4000000 in
theorem lk_X9_intervals_26 {G : mG} {rec : Nat → Nat → Int → Int → mS → Option Int} {x0 : Nat} {x1 : Nat} {x3 : Int} {y0 : Int} {y1 : Int} {σ : mS} {R : Int} {r : mX} {τ : mS} (hD : D_X9_intervals_26 rec x0 x1 x3 y0 y1 σ = some R) (hrec : ∀ {x0 : Nat} {x1 : Nat} {x2 : Int} {x3 : Int} {σ : mS} {R : Int}, rec x0 x1 x2 x3 σ = some R → ∀ {r : mX} {τ : mS}, Ev G M_X9_intervals 34 [(2, vi (R))] [] σ r τ → Ev G M_X9_intervals 4 [(0, vr x0), (1, vr x1), (2, vi x2), (3, vi x3)] [] σ r τ) (hk : Ev G M_X9_intervals 34 [(2, vi (R))] [] σ r τ) : Ev G M_X9_intervals 26 [(0, vr x0), (1, vr x1), (3, vi x3)] [vi y0, vi y1] σ r τ := by
  unfold D_X9_intervals_26 at hD
  refine ev_iadd dX9_intervals_26 ?_
  refine ev_istore_n dX9_intervals_27 rfl (Nat.le_of_ble_eq_true rfl) rfl ?_
  refine ev_iinc dX9_intervals_28 3 rfl (Nat.le_of_ble_eq_true rfl) rfl ?_
  refine ev_goto (tgt := 4) dX9_intervals_31 (by decide) ?_
  refine Ev.pick [2, 3, 1, 0] rfl ?_
  exact hrec hD hk
def D_X9_intervals_4 : Nat → Nat → Nat → Int → Int → mS → Option Int
  | 0, _, _, _, _, _ => none
  | f + 1, x0, x1, x2, x3, σ =>
    if 1000 ≤ x3 then
      some x2
    else
      (tgO σ x0 8).bind fun _ =>
      (D_X9_begins x0 x1 x3 σ).bind fun r1 =>
      if r1 = 0 then
        D_X9_intervals_26 (D_X9_intervals_4 f) x0 x1 x3 0 x2 σ
      else
        D_X9_intervals_26 (D_X9_intervals_4 f) x0 x1 x3 1 x2 σ
set_option maxRecDepth 100000 in
set_option maxHeartbeats 4000000 in
theorem lk_X9_intervals_4 {G : mG} (f : Nat) : ∀ {x0 : Nat} {x1 : Nat} {x2 : Int} {x3 : Int} {σ : mS} {R : Int}, D_X9_intervals_4 f x0 x1 x2 x3 σ = some R → ∀ {r : mX} {τ : mS}, Ev G M_X9_intervals 34 [(2, vi (R))] [] σ r τ → Ev G M_X9_intervals 4 [(0, vr x0), (1, vr x1), (2, vi x2), (3, vi x3)] [] σ r τ := by
  induction f with
  | zero =>
    intros
    rename_i hD _ _ _
    cases hD
  | succ f ih =>
    intro x0 x1 x2 x3 σ R hD r τ hk
    have hrec := @ih
    rw [D_X9_intervals_4] at hD
    refine ev_iload_n dX9_intervals_4 3 rfl rfl ?_
    refine ev_sp dX9_intervals_5 rfl ?_
    by_cases c : 1000 ≤ x3
    · rw [if_pos c] at hD
      refine ev_icmp_ge_t (tgt := 34) dX9_intervals_8 (by decide) c ?_
      cases hD
      refine Ev.pick [2] rfl ?_
      exact hk
    · rw [if_neg c] at hD
      refine ev_icmp_ge_f 34 dX9_intervals_8 (by decide) c ?_
      refine ev_iload_n dX9_intervals_11 2 rfl rfl ?_
      refine ev_aload_n dX9_intervals_12 0 rfl rfl ?_
      refine ev_aload_n dX9_intervals_13 1 rfl rfl ?_
      refine ev_iload_n dX9_intervals_14 3 rfl rfl ?_
      obtain ⟨_, g0, hD⟩ := bd hD
      obtain ⟨r1, g, hD⟩ := bd hD
      refine ew_callVv (as := [vr x1, vi x3]) (a := x0) (rest := [vi x2]) dX9_intervals_15 v_X9_begins w_1739 rfl (Nat.le_of_ble_eq_true rfl) rfl rfl g0 (Nat.le_of_ble_eq_true rfl) (Nat.le_of_ble_eq_true rfl) (ct_X9_begins g) ?_
      by_cases c : r1 = 0
      · rw [if_pos c] at hD
        refine ev_if_eq_t (tgt := 25) dX9_intervals_18 (by decide) c ?_
        refine ev_iconst dX9_intervals_25 (mi_c rfl) ?_
        refine Ev.pick [0, 1, 3] rfl ?_
        exact lk_X9_intervals_26 hD hrec hk
      · rw [if_neg c] at hD
        refine ev_if_eq_f 25 dX9_intervals_18 (by decide) c ?_
        refine ev_iconst dX9_intervals_21 (mi_c rfl) ?_
        refine ev_goto (tgt := 26) dX9_intervals_22 (by decide) ?_
        refine Ev.pick [0, 1, 3] rfl ?_
        exact lk_X9_intervals_26 hD hrec hk
def D_X9_intervals (x0 : Nat) (x1 : Nat) (σ : mS) : Option Int :=
  (D_X9_intervals_4 mFU x0 x1 0 0 σ).bind fun r1 =>
  some r1
set_option maxRecDepth 100000 in
set_option maxHeartbeats 4000000 in
theorem lk_X9_intervals {G : mG} {x0 : Nat} {x1 : Nat} {σ : mS} {R : Int} (hD : D_X9_intervals x0 x1 σ = some R) : Ev G M_X9_intervals 0 [(0, vr x0), (1, vr x1)] [] σ (.inl (some (vi R))) σ := by
  unfold D_X9_intervals at hD
  refine ev_iconst dX9_intervals_0 (mi_c rfl) ?_
  refine ev_istore_n dX9_intervals_1 rfl (Nat.le_of_ble_eq_true rfl) rfl ?_
  refine ev_iconst dX9_intervals_2 (mi_c rfl) ?_
  refine ev_istore_n dX9_intervals_3 rfl (Nat.le_of_ble_eq_true rfl) rfl ?_
  obtain ⟨r1, g, hD⟩ := bd hD
  refine Ev.pick [2, 3, 1, 0] rfl ?_
  refine lk_X9_intervals_4 mFU g ?_
  refine ev_iload_n dX9_intervals_34 0 rfl rfl ?_
  cases hD
  exact ev_ret (some (vi _)) dX9_intervals_35 True.intro
theorem ct_X9_intervals {G : mG} {x0 : Nat} {x1 : Nat} {σ : mS} {R : Int} (hD : D_X9_intervals x0 x1 σ = some R) : Ct G M_X9_intervals [vr x0, vr x1] σ (.inl (some (vi R))) σ := ct_of rfl (by decide +kernel) rfl (Nat.le_of_ble_eq_true rfl) rfl (lk_X9_intervals hD)
def D_X9_earliest_2 : Nat → Nat → Int → Int → mS → Option (Unit ⊕ Int)
  | 0, _, _, _, _ => none
  | f + 1, x0, x1, x2, σ =>
    if 1000 ≤ x2 then
      some (Sum.inl ())
    else
      (gR σ x0 8 14).bind fun v1 =>
      (lR σ v1 x1).bind fun v2 =>
      (lB σ v2 x2).bind fun v3 =>
      if v3 = 0 then
        (D_X9_earliest_2 f) x0 x1 (mw (x2 + 1)) σ
      else
        some (Sum.inr x2)
set_option maxRecDepth 100000 in
set_option maxHeartbeats 4000000 in
theorem lk_X9_earliest_2 {G : mG} (f : Nat) : ∀ {x0 : Nat} {x1 : Int} {x2 : Int} {σ : mS} {R : (Unit ⊕ Int)}, D_X9_earliest_2 f x0 x1 x2 σ = some R → ∀ {r : mX} {τ : mS}, (∀ z, R = (Sum.inl z) → Ev G M_X9_earliest 28 [] [] σ r τ) ∧ (∀ z, R = (Sum.inr z) → r = .inl (some (vi z)) ∧ τ = σ) → Ev G M_X9_earliest 2 [(0, vr x0), (1, vi x1), (2, vi x2)] [] σ r τ := by
  induction f with
  | zero =>
    intros
    rename_i hD _ _ _
    cases hD
  | succ f ih =>
    intro x0 x1 x2 σ R hD r τ hk
    have hrec := @ih
    rw [D_X9_earliest_2] at hD
    refine ev_iload_n dX9_earliest_2 2 rfl rfl ?_
    refine ev_sp dX9_earliest_3 rfl ?_
    by_cases c : 1000 ≤ x2
    · rw [if_pos c] at hD
      refine ev_icmp_ge_t (tgt := 28) dX9_earliest_6 (by decide) c ?_
      cases hD
      refine Ev.pick [] rfl ?_
      exact hk.1 _ rfl
    · rw [if_neg c] at hD
      refine ev_icmp_ge_f 28 dX9_earliest_6 (by decide) c ?_
      refine ev_aload_n dX9_earliest_9 0 rfl rfl ?_
      obtain ⟨v1, g, hD⟩ := bd hD
      refine ew_getR 8 14 dX9_earliest_10 rfl (Nat.le_of_ble_eq_true rfl) w_1279 in_X9 rfl g ?_
      refine ev_iload_n dX9_earliest_13 1 rfl rfl ?_
      obtain ⟨v2, g, hD⟩ := bd hD
      refine ew_aald dX9_earliest_14 g ?_
      refine ev_iload_n dX9_earliest_15 2 rfl rfl ?_
      obtain ⟨v3, g, hD⟩ := bd hD
      refine ew_bald dX9_earliest_16 g ?_
      by_cases c : v3 = 0
      · rw [if_pos c] at hD
        refine ev_if_eq_t (tgt := 22) dX9_earliest_17 (by decide) c ?_
        refine ev_iinc dX9_earliest_22 2 rfl (Nat.le_of_ble_eq_true rfl) rfl ?_
        refine ev_goto (tgt := 2) dX9_earliest_25 (by decide) ?_
        refine Ev.pick [1, 2, 0] rfl ?_
        exact hrec hD hk
      · rw [if_neg c] at hD
        refine ev_if_eq_f 22 dX9_earliest_17 (by decide) c ?_
        refine ev_iload_n dX9_earliest_20 2 rfl rfl ?_
        cases hD
        obtain ⟨rfl, rfl⟩ := hk.2 _ rfl
        exact ev_ret (some (vi _)) dX9_earliest_21 True.intro
def D_X9_earliest (x0 : Nat) (x1 : Int) (σ : mS) : Option Int :=
  (D_X9_earliest_2 mFU x0 x1 0 σ).bind fun r1 =>
  match r1 with
  | (Sum.inl z2) =>
    some ((-1))
  | (Sum.inr z3) =>
    some z3
set_option maxRecDepth 100000 in
set_option maxHeartbeats 4000000 in
theorem lk_X9_earliest {G : mG} {x0 : Nat} {x1 : Int} {σ : mS} {R : Int} (hD : D_X9_earliest x0 x1 σ = some R) : Ev G M_X9_earliest 0 [(0, vr x0), (1, vi x1)] [] σ (.inl (some (vi R))) σ := by
  unfold D_X9_earliest at hD
  refine ev_iconst dX9_earliest_0 (mi_c rfl) ?_
  refine ev_istore_n dX9_earliest_1 rfl (Nat.le_of_ble_eq_true rfl) rfl ?_
  obtain ⟨r1, g, hD⟩ := bd hD
  refine Ev.pick [1, 2, 0] rfl ?_
  rcases r1 with z2 | z3
  · refine lk_X9_earliest_2 mFU g ⟨(fun _ hz => ?_), (fun _ hz => nomatch hz)⟩
    cases hz
    refine ev_iconst dX9_earliest_28 (mi_c rfl) ?_
    cases hD
    exact ev_ret (some (vi _)) dX9_earliest_29 True.intro
  · refine lk_X9_earliest_2 mFU g ⟨(fun _ hz => nomatch hz), (fun _ hz => ?_)⟩
    cases hz
    cases hD
    exact ⟨rfl, rfl⟩
theorem ct_X9_earliest {G : mG} {x0 : Nat} {x1 : Int} {σ : mS} {R : Int} (hD : D_X9_earliest x0 x1 σ = some R) : Ct G M_X9_earliest [vr x0, vi x1] σ (.inl (some (vi R))) σ := ct_of rfl (by decide +kernel) rfl (Nat.le_of_ble_eq_true rfl) rfl (lk_X9_earliest hD)
def D_X9_latest_4 : Nat → Nat → Int → Int → mS → Option (Unit ⊕ Int)
  | 0, _, _, _, _ => none
  | f + 1, x0, x1, x2, σ =>
    if x2 < 0 then
      some (Sum.inl ())
    else
      (gR σ x0 8 14).bind fun v1 =>
      (lR σ v1 x1).bind fun v2 =>
      (lB σ v2 x2).bind fun v3 =>
      if v3 = 0 then
        (D_X9_latest_4 f) x0 x1 (mw (x2 + (-1))) σ
      else
        some (Sum.inr x2)
set_option maxRecDepth 100000 in
set_option maxHeartbeats 4000000 in
theorem lk_X9_latest_4 {G : mG} (f : Nat) : ∀ {x0 : Nat} {x1 : Int} {x2 : Int} {σ : mS} {R : (Unit ⊕ Int)}, D_X9_latest_4 f x0 x1 x2 σ = some R → ∀ {r : mX} {τ : mS}, (∀ z, R = (Sum.inl z) → Ev G M_X9_latest 27 [] [] σ r τ) ∧ (∀ z, R = (Sum.inr z) → r = .inl (some (vi z)) ∧ τ = σ) → Ev G M_X9_latest 4 [(0, vr x0), (1, vi x1), (2, vi x2)] [] σ r τ := by
  induction f with
  | zero =>
    intros
    rename_i hD _ _ _
    cases hD
  | succ f ih =>
    intro x0 x1 x2 σ R hD r τ hk
    have hrec := @ih
    rw [D_X9_latest_4] at hD
    refine ev_iload_n dX9_latest_4 2 rfl rfl ?_
    by_cases c : x2 < 0
    · rw [if_pos c] at hD
      refine ev_if_lt_t (tgt := 27) dX9_latest_5 (by decide) c ?_
      cases hD
      refine Ev.pick [] rfl ?_
      exact hk.1 _ rfl
    · rw [if_neg c] at hD
      refine ev_if_lt_f 27 dX9_latest_5 (by decide) c ?_
      refine ev_aload_n dX9_latest_8 0 rfl rfl ?_
      obtain ⟨v1, g, hD⟩ := bd hD
      refine ew_getR 8 14 dX9_latest_9 rfl (Nat.le_of_ble_eq_true rfl) w_1279 in_X9 rfl g ?_
      refine ev_iload_n dX9_latest_12 1 rfl rfl ?_
      obtain ⟨v2, g, hD⟩ := bd hD
      refine ew_aald dX9_latest_13 g ?_
      refine ev_iload_n dX9_latest_14 2 rfl rfl ?_
      obtain ⟨v3, g, hD⟩ := bd hD
      refine ew_bald dX9_latest_15 g ?_
      by_cases c : v3 = 0
      · rw [if_pos c] at hD
        refine ev_if_eq_t (tgt := 21) dX9_latest_16 (by decide) c ?_
        refine ev_iinc dX9_latest_21 2 rfl (Nat.le_of_ble_eq_true rfl) rfl ?_
        refine ev_goto (tgt := 4) dX9_latest_24 (by decide) ?_
        refine Ev.pick [1, 2, 0] rfl ?_
        exact hrec hD hk
      · rw [if_neg c] at hD
        refine ev_if_eq_f 21 dX9_latest_16 (by decide) c ?_
        refine ev_iload_n dX9_latest_19 2 rfl rfl ?_
        cases hD
        obtain ⟨rfl, rfl⟩ := hk.2 _ rfl
        exact ev_ret (some (vi _)) dX9_latest_20 True.intro
def D_X9_latest (x0 : Nat) (x1 : Int) (σ : mS) : Option Int :=
  (D_X9_latest_4 mFU x0 x1 999 σ).bind fun r1 =>
  match r1 with
  | (Sum.inl z2) =>
    some ((-1))
  | (Sum.inr z3) =>
    some z3
set_option maxRecDepth 100000 in
set_option maxHeartbeats 4000000 in
theorem lk_X9_latest {G : mG} {x0 : Nat} {x1 : Int} {σ : mS} {R : Int} (hD : D_X9_latest x0 x1 σ = some R) : Ev G M_X9_latest 0 [(0, vr x0), (1, vi x1)] [] σ (.inl (some (vi R))) σ := by
  unfold D_X9_latest at hD
  refine ev_sp dX9_latest_0 rfl ?_
  refine ev_istore_n dX9_latest_3 rfl (Nat.le_of_ble_eq_true rfl) rfl ?_
  obtain ⟨r1, g, hD⟩ := bd hD
  refine Ev.pick [1, 2, 0] rfl ?_
  rcases r1 with z2 | z3
  · refine lk_X9_latest_4 mFU g ⟨(fun _ hz => ?_), (fun _ hz => nomatch hz)⟩
    cases hz
    refine ev_iconst dX9_latest_27 (mi_c rfl) ?_
    cases hD
    exact ev_ret (some (vi _)) dX9_latest_28 True.intro
  · refine lk_X9_latest_4 mFU g ⟨(fun _ hz => nomatch hz), (fun _ hz => ?_)⟩
    cases hz
    cases hD
    exact ⟨rfl, rfl⟩
theorem ct_X9_latest {G : mG} {x0 : Nat} {x1 : Int} {σ : mS} {R : Int} (hD : D_X9_latest x0 x1 σ = some R) : Ct G M_X9_latest [vr x0, vi x1] σ (.inl (some (vi R))) σ := ct_of rfl (by decide +kernel) rfl (Nat.le_of_ble_eq_true rfl) rfl (lk_X9_latest hD)
def D_X9_bestYear_59 (rec : Nat → Int → Int → Int → Int → mS → Option Int) (x0 : Nat) (x1 : Int) (x2 : Int) (x3 : Int) (x4 : Int) (σ : mS) : Option Int :=
  rec x0 x1 x2 x3 (mw (x4 + 1)) σ
set_option maxRecDepth 100000 in
set_option maxHeartbeats 4000000 in
theorem lk_X9_bestYear_59 {G : mG} {rec : Nat → Int → Int → Int → Int → mS → Option Int} {x0 : Nat} {x1 : Int} {x2 : Int} {x3 : Int} {x4 : Int} {σ : mS} {R : Int} {r : mX} {τ : mS} (hD : D_X9_bestYear_59 rec x0 x1 x2 x3 x4 σ = some R) (hrec : ∀ {x0 : Nat} {x1 : Int} {x2 : Int} {x3 : Int} {x4 : Int} {σ : mS} {R : Int}, rec x0 x1 x2 x3 x4 σ = some R → ∀ {r : mX} {τ : mS}, Ev G M_X9_bestYear 65 [(2, vi (R))] [] σ r τ → Ev G M_X9_bestYear 7 [(0, vr x0), (1, vi x1), (2, vi x2), (3, vi x3), (4, vi x4)] [] σ r τ) (hk : Ev G M_X9_bestYear 65 [(2, vi (R))] [] σ r τ) : Ev G M_X9_bestYear 59 [(0, vr x0), (1, vi x1), (2, vi x2), (3, vi x3), (4, vi x4)] [] σ r τ := by
  unfold D_X9_bestYear_59 at hD
  refine ev_iinc dX9_bestYear_59 4 rfl (Nat.le_of_ble_eq_true rfl) rfl ?_
  refine ev_goto (tgt := 7) dX9_bestYear_62 (by decide) ?_
  refine Ev.pick [1, 2, 3, 4, 0] rfl ?_
  exact hrec hD hk
def D_X9_bestYear_53 (rec : Nat → Int → Int → Int → Int → mS → Option Int) (x0 : Nat) (x1 : Int) (x4 : Int) (x5 : Int) (σ : mS) : Option Int :=
  D_X9_bestYear_59 rec x0 x1 x4 x5 x4 σ
set_option maxRecDepth 100000 in
set_option maxHeartbeats 4000000 in
theorem lk_X9_bestYear_53 {G : mG} {rec : Nat → Int → Int → Int → Int → mS → Option Int} {x0 : Nat} {x1 : Int} {x4 : Int} {x5 : Int} {σ : mS} {R : Int} {r : mX} {τ : mS} (hD : D_X9_bestYear_53 rec x0 x1 x4 x5 σ = some R) (hrec : ∀ {x0 : Nat} {x1 : Int} {x2 : Int} {x3 : Int} {x4 : Int} {σ : mS} {R : Int}, rec x0 x1 x2 x3 x4 σ = some R → ∀ {r : mX} {τ : mS}, Ev G M_X9_bestYear 65 [(2, vi (R))] [] σ r τ → Ev G M_X9_bestYear 7 [(0, vr x0), (1, vi x1), (2, vi x2), (3, vi x3), (4, vi x4)] [] σ r τ) (hk : Ev G M_X9_bestYear 65 [(2, vi (R))] [] σ r τ) : Ev G M_X9_bestYear 53 [(0, vr x0), (1, vi x1), (4, vi x4), (5, vi x5)] [] σ r τ := by
  unfold D_X9_bestYear_53 at hD
  refine ev_iload dX9_bestYear_53 2 rfl ?_
  refine ev_istore_n dX9_bestYear_55 rfl (Nat.le_of_ble_eq_true rfl) rfl ?_
  refine ev_iload dX9_bestYear_56 4 rfl ?_
  refine ev_istore_n dX9_bestYear_58 rfl (Nat.le_of_ble_eq_true rfl) rfl ?_
  refine Ev.pick [2, 3, 1, 0, 4] rfl ?_
  exact lk_X9_bestYear_59 hD hrec hk
def D_X9_bestYear_7 : Nat → Nat → Int → Int → Int → Int → mS → Option Int
  | 0, _, _, _, _, _, _ => none
  | f + 1, x0, x1, x2, x3, x4, σ =>
    if 1000 ≤ x4 then
      some x2
    else
      (gR σ x0 8 14).bind fun v1 =>
      (lR σ v1 x1).bind fun v2 =>
      (lB σ v2 x4).bind fun v3 =>
      if v3 ≠ 0 then
        (tgO σ x0 8).bind fun _ =>
        (D_X9_misfitOf x0 x1 x4 σ).bind fun r4 =>
        if x2 = ((-1)) then
          D_X9_bestYear_53 (D_X9_bestYear_7 f) x0 x1 x4 r4 σ
        else
          if r4 < x3 then
            D_X9_bestYear_53 (D_X9_bestYear_7 f) x0 x1 x4 r4 σ
          else
            D_X9_bestYear_59 (D_X9_bestYear_7 f) x0 x1 x2 x3 x4 σ
      else
        D_X9_bestYear_59 (D_X9_bestYear_7 f) x0 x1 x2 x3 x4 σ
set_option maxRecDepth 100000 in
set_option maxHeartbeats 4000000 in
theorem lk_X9_bestYear_7 {G : mG} (f : Nat) : ∀ {x0 : Nat} {x1 : Int} {x2 : Int} {x3 : Int} {x4 : Int} {σ : mS} {R : Int}, D_X9_bestYear_7 f x0 x1 x2 x3 x4 σ = some R → ∀ {r : mX} {τ : mS}, Ev G M_X9_bestYear 65 [(2, vi (R))] [] σ r τ → Ev G M_X9_bestYear 7 [(0, vr x0), (1, vi x1), (2, vi x2), (3, vi x3), (4, vi x4)] [] σ r τ := by
  induction f with
  | zero =>
    intros
    rename_i hD _ _ _
    cases hD
  | succ f ih =>
    intro x0 x1 x2 x3 x4 σ R hD r τ hk
    have hrec := @ih
    rw [D_X9_bestYear_7] at hD
    refine ev_iload dX9_bestYear_7 4 rfl ?_
    refine ev_sp dX9_bestYear_9 rfl ?_
    by_cases c : 1000 ≤ x4
    · rw [if_pos c] at hD
      refine ev_icmp_ge_t (tgt := 65) dX9_bestYear_12 (by decide) c ?_
      cases hD
      refine Ev.pick [2] rfl ?_
      exact hk
    · rw [if_neg c] at hD
      refine ev_icmp_ge_f 65 dX9_bestYear_12 (by decide) c ?_
      refine ev_aload_n dX9_bestYear_15 0 rfl rfl ?_
      obtain ⟨v1, g, hD⟩ := bd hD
      refine ew_getR 8 14 dX9_bestYear_16 rfl (Nat.le_of_ble_eq_true rfl) w_1279 in_X9 rfl g ?_
      refine ev_iload_n dX9_bestYear_19 1 rfl rfl ?_
      obtain ⟨v2, g, hD⟩ := bd hD
      refine ew_aald dX9_bestYear_20 g ?_
      refine ev_iload dX9_bestYear_21 4 rfl ?_
      obtain ⟨v3, g, hD⟩ := bd hD
      refine ew_bald dX9_bestYear_23 g ?_
      by_cases c : v3 ≠ 0
      · rw [if_pos c] at hD
        refine ev_if_ne_t (tgt := 30) dX9_bestYear_24 (by decide) c ?_
        refine ev_aload_n dX9_bestYear_30 0 rfl rfl ?_
        refine ev_iload_n dX9_bestYear_31 1 rfl rfl ?_
        refine ev_iload dX9_bestYear_32 4 rfl ?_
        obtain ⟨_, g0, hD⟩ := bd hD
        obtain ⟨r4, g, hD⟩ := bd hD
        refine ew_callVv (as := [vi x1, vi x4]) (a := x0) (rest := []) dX9_bestYear_34 v_X9_misfitOf w_1633 rfl (Nat.le_of_ble_eq_true rfl) rfl rfl g0 (Nat.le_of_ble_eq_true rfl) (Nat.le_of_ble_eq_true rfl) (ct_X9_misfitOf g) ?_
        refine ev_istore dX9_bestYear_37 (Nat.le_of_ble_eq_true rfl) rfl ?_
        refine ev_iload_n dX9_bestYear_39 3 rfl rfl ?_
        refine ev_iconst dX9_bestYear_40 (mi_c rfl) ?_
        by_cases c : x2 = ((-1))
        · rw [if_pos c] at hD
          refine ev_icmp_eq_t (tgt := 53) dX9_bestYear_41 (by decide) c ?_
          refine Ev.pick [1, 2, 5, 0] rfl ?_
          exact lk_X9_bestYear_53 hD hrec hk
        · rw [if_neg c] at hD
          refine ev_icmp_eq_f 53 dX9_bestYear_41 (by decide) c ?_
          refine ev_iload dX9_bestYear_44 0 rfl ?_
          refine ev_iload_n dX9_bestYear_46 4 rfl rfl ?_
          by_cases c : r4 < x3
          · rw [if_pos c] at hD
            refine ev_icmp_lt_t (tgt := 53) dX9_bestYear_47 (by decide) c ?_
            refine Ev.pick [1, 2, 5, 0] rfl ?_
            exact lk_X9_bestYear_53 hD hrec hk
          · rw [if_neg c] at hD
            refine ev_icmp_lt_f 53 dX9_bestYear_47 (by decide) c ?_
            refine ev_goto (tgt := 59) dX9_bestYear_50 (by decide) ?_
            refine Ev.pick [1, 2, 3, 4, 5] rfl ?_
            exact lk_X9_bestYear_59 hD hrec hk
      · rw [if_neg c] at hD
        refine ev_if_ne_f 30 dX9_bestYear_24 (by decide) c ?_
        refine ev_goto (tgt := 59) dX9_bestYear_27 (by decide) ?_
        exact lk_X9_bestYear_59 hD hrec hk
def D_X9_bestYear (x0 : Nat) (x1 : Int) (σ : mS) : Option Int :=
  (D_X9_bestYear_7 mFU x0 x1 ((-1)) ((-1)) 0 σ).bind fun r1 =>
  some r1
set_option maxRecDepth 100000 in
set_option maxHeartbeats 4000000 in
theorem lk_X9_bestYear {G : mG} {x0 : Nat} {x1 : Int} {σ : mS} {R : Int} (hD : D_X9_bestYear x0 x1 σ = some R) : Ev G M_X9_bestYear 0 [(0, vr x0), (1, vi x1)] [] σ (.inl (some (vi R))) σ := by
  unfold D_X9_bestYear at hD
  refine ev_iconst dX9_bestYear_0 (mi_c rfl) ?_
  refine ev_istore_n dX9_bestYear_1 rfl (Nat.le_of_ble_eq_true rfl) rfl ?_
  refine ev_iconst dX9_bestYear_2 (mi_c rfl) ?_
  refine ev_istore_n dX9_bestYear_3 rfl (Nat.le_of_ble_eq_true rfl) rfl ?_
  refine ev_iconst dX9_bestYear_4 (mi_c rfl) ?_
  refine ev_istore dX9_bestYear_5 (Nat.le_of_ble_eq_true rfl) rfl ?_
  obtain ⟨r1, g, hD⟩ := bd hD
  refine Ev.pick [3, 4, 2, 1, 0] rfl ?_
  refine lk_X9_bestYear_7 mFU g ?_
  refine ev_iload_n dX9_bestYear_65 0 rfl rfl ?_
  cases hD
  exact ev_ret (some (vi _)) dX9_bestYear_66 True.intro
theorem ct_X9_bestYear {G : mG} {x0 : Nat} {x1 : Int} {σ : mS} {R : Int} (hD : D_X9_bestYear x0 x1 σ = some R) : Ct G M_X9_bestYear [vr x0, vi x1] σ (.inl (some (vi R))) σ := ct_of rfl (by decide +kernel) rfl (Nat.le_of_ble_eq_true rfl) rfl (lk_X9_bestYear hD)
